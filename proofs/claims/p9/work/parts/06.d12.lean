theorem dX12_placeIn_38 : decode cX12_placeIn 38 = .ok (.aload_n 1, 1) := by decide +kernel
theorem dX12_placeIn_39 : decode cX12_placeIn 39 = .ok (.iload 4, 2) := by decide +kernel
theorem dX12_placeIn_41 : decode cX12_placeIn 41 = .ok (.iload 6, 2) := by decide +kernel
theorem dX12_placeIn_43 : decode cX12_placeIn 43 = .ok (.iadd, 1) := by decide +kernel
theorem dX12_placeIn_44 : decode cX12_placeIn 44 = .ok (.invokevirtual 173, 3) := by decide +kernel
theorem dX12_placeIn_47 : decode cX12_placeIn 47 = .ok (.aload_n 0, 1) := by decide +kernel
theorem dX12_placeIn_48 : decode cX12_placeIn 48 = .ok (.iload_n 2, 1) := by decide +kernel
theorem dX12_placeIn_49 : decode cX12_placeIn 49 = .ok (.iload 6, 2) := by decide +kernel
theorem dX12_placeIn_51 : decode cX12_placeIn 51 = .ok (.iadd, 1) := by decide +kernel
theorem dX12_placeIn_52 : decode cX12_placeIn 52 = .ok (.invokevirtual 177, 3) := by decide +kernel
theorem dX12_placeIn_55 : decode cX12_placeIn 55 = .ok (.if_icmp .ne 9, 3) := by decide +kernel
theorem dX12_placeIn_58 : decode cX12_placeIn 58 = .ok (.iinc 6 1, 3) := by decide +kernel
theorem dX12_placeIn_61 : decode cX12_placeIn 61 = .ok (.goto (-43), 3) := by decide +kernel
theorem dX12_placeIn_64 : decode cX12_placeIn 64 = .ok (.iload 6, 2) := by decide +kernel
theorem dX12_placeIn_66 : decode cX12_placeIn 66 = .ok (.iload_n 3, 1) := by decide +kernel
theorem dX12_placeIn_67 : decode cX12_placeIn 67 = .ok (.if_icmp .ne 20, 3) := by decide +kernel
theorem dX12_placeIn_70 : decode cX12_placeIn 70 = .ok (.aload_n 1, 1) := by decide +kernel
theorem dX12_placeIn_71 : decode cX12_placeIn 71 = .ok (.iload 4, 2) := by decide +kernel
theorem dX12_placeIn_73 : decode cX12_placeIn 73 = .ok (.iload 6, 2) := by decide +kernel
theorem dX12_placeIn_75 : decode cX12_placeIn 75 = .ok (.iadd, 1) := by decide +kernel
theorem dX12_placeIn_76 : decode cX12_placeIn 76 = .ok (.invokevirtual 173, 3) := by decide +kernel
theorem dX12_placeIn_79 : decode cX12_placeIn 79 = .ok (.bipush 32, 2) := by decide +kernel
theorem dX12_placeIn_81 : decode cX12_placeIn 81 = .ok (.if_icmp .ne 6, 3) := by decide +kernel
theorem dX12_placeIn_84 : decode cX12_placeIn 84 = .ok (.iload 5, 2) := by decide +kernel
theorem dX12_placeIn_86 : decode cX12_placeIn 86 = .ok (.ireturn, 1) := by decide +kernel
theorem dX12_placeIn_87 : decode cX12_placeIn 87 = .ok (.aload_n 1, 1) := by decide +kernel
theorem dX12_placeIn_88 : decode cX12_placeIn 88 = .ok (.iload 4, 2) := by decide +kernel
theorem dX12_placeIn_90 : decode cX12_placeIn 90 = .ok (.invokevirtual 173, 3) := by decide +kernel
theorem dX12_placeIn_93 : decode cX12_placeIn 93 = .ok (.bipush 32, 2) := by decide +kernel
theorem dX12_placeIn_95 : decode cX12_placeIn 95 = .ok (.if_icmp .eq 9, 3) := by decide +kernel
theorem dX12_placeIn_98 : decode cX12_placeIn 98 = .ok (.iinc 4 1, 3) := by decide +kernel
theorem dX12_placeIn_101 : decode cX12_placeIn 101 = .ok (.goto (-14), 3) := by decide +kernel
theorem dX12_placeIn_104 : decode cX12_placeIn 104 = .ok (.iinc 4 1, 3) := by decide +kernel
theorem dX12_placeIn_107 : decode cX12_placeIn 107 = .ok (.iinc 5 1, 3) := by decide +kernel
theorem dX12_placeIn_110 : decode cX12_placeIn 110 = .ok (.goto (-104), 3) := by decide +kernel
theorem dX12_placeIn_113 : decode cX12_placeIn 113 = .ok (.iconst (-1), 1) := by decide +kernel
theorem dX12_placeIn_114 : decode cX12_placeIn 114 = .ok (.ireturn, 1) := by decide +kernel
theorem dX12_nameOf_0 : decode cX12_nameOf 0 = .ok (.aload_n 0, 1) := by decide +kernel
theorem dX12_nameOf_1 : decode cX12_nameOf 1 = .ok (.iload_n 1, 1) := by decide +kernel
theorem dX12_nameOf_2 : decode cX12_nameOf 2 = .ok (.invokevirtual 177, 3) := by decide +kernel
theorem dX12_nameOf_5 : decode cX12_nameOf 5 = .ok (.bipush 7, 2) := by decide +kernel
theorem dX12_nameOf_7 : decode cX12_nameOf 7 = .ok (.imul, 1) := by decide +kernel
theorem dX12_nameOf_8 : decode cX12_nameOf 8 = .ok (.aload_n 0, 1) := by decide +kernel
theorem dX12_nameOf_9 : decode cX12_nameOf 9 = .ok (.iload_n 1, 1) := by decide +kernel
theorem dX12_nameOf_10 : decode cX12_nameOf 10 = .ok (.iload_n 2, 1) := by decide +kernel
theorem dX12_nameOf_11 : decode cX12_nameOf 11 = .ok (.iadd, 1) := by decide +kernel
theorem dX12_nameOf_12 : decode cX12_nameOf 12 = .ok (.iconst 1, 1) := by decide +kernel
theorem dX12_nameOf_13 : decode cX12_nameOf 13 = .ok (.isub, 1) := by decide +kernel
theorem dX12_nameOf_14 : decode cX12_nameOf 14 = .ok (.invokevirtual 177, 3) := by decide +kernel
theorem dX12_nameOf_17 : decode cX12_nameOf 17 = .ok (.iconst 3, 1) := by decide +kernel
theorem dX12_nameOf_18 : decode cX12_nameOf 18 = .ok (.imul, 1) := by decide +kernel
theorem dX12_nameOf_19 : decode cX12_nameOf 19 = .ok (.iadd, 1) := by decide +kernel
theorem dX12_nameOf_20 : decode cX12_nameOf 20 = .ok (.iload_n 2, 1) := by decide +kernel
theorem dX12_nameOf_21 : decode cX12_nameOf 21 = .ok (.iadd, 1) := by decide +kernel
theorem dX12_nameOf_22 : decode cX12_nameOf 22 = .ok (.bipush 64, 2) := by decide +kernel
theorem dX12_nameOf_24 : decode cX12_nameOf 24 = .ok (.irem, 1) := by decide +kernel
theorem dX12_nameOf_25 : decode cX12_nameOf 25 = .ok (.istore_n 3, 1) := by decide +kernel
theorem dX12_nameOf_26 : decode cX12_nameOf 26 = .ok (.aload_n 0, 1) := by decide +kernel
theorem dX12_nameOf_27 : decode cX12_nameOf 27 = .ok (.getfield 34, 3) := by decide +kernel
theorem dX12_nameOf_30 : decode cX12_nameOf 30 = .ok (.iload_n 3, 1) := by decide +kernel
theorem dX12_nameOf_31 : decode cX12_nameOf 31 = .ok (.iaload, 1) := by decide +kernel
theorem dX12_nameOf_32 : decode cX12_nameOf 32 = .ok (.istore 4, 2) := by decide +kernel
theorem dX12_nameOf_34 : decode cX12_nameOf 34 = .ok (.iload 4, 2) := by decide +kernel
theorem dX12_nameOf_36 : decode cX12_nameOf 36 = .ok (.iconst (-1), 1) := by decide +kernel
theorem dX12_nameOf_37 : decode cX12_nameOf 37 = .ok (.if_icmp .eq 93, 3) := by decide +kernel
theorem dX12_nameOf_40 : decode cX12_nameOf 40 = .ok (.aload_n 0, 1) := by decide +kernel
theorem dX12_nameOf_41 : decode cX12_nameOf 41 = .ok (.getfield 28, 3) := by decide +kernel
theorem dX12_nameOf_44 : decode cX12_nameOf 44 = .ok (.iload 4, 2) := by decide +kernel
theorem dX12_nameOf_46 : decode cX12_nameOf 46 = .ok (.iaload, 1) := by decide +kernel
theorem dX12_nameOf_47 : decode cX12_nameOf 47 = .ok (.iload_n 2, 1) := by decide +kernel
theorem dX12_nameOf_48 : decode cX12_nameOf 48 = .ok (.if_icmp .ne 7, 3) := by decide +kernel
theorem dX12_nameOf_51 : decode cX12_nameOf 51 = .ok (.iconst 1, 1) := by decide +kernel
theorem dX12_nameOf_52 : decode cX12_nameOf 52 = .ok (.goto 4, 3) := by decide +kernel
theorem dX12_nameOf_55 : decode cX12_nameOf 55 = .ok (.iconst 0, 1) := by decide +kernel
theorem dX12_nameOf_56 : decode cX12_nameOf 56 = .ok (.istore 5, 2) := by decide +kernel
theorem dX12_nameOf_58 : decode cX12_nameOf 58 = .ok (.iconst 0, 1) := by decide +kernel
theorem dX12_nameOf_59 : decode cX12_nameOf 59 = .ok (.istore 6, 2) := by decide +kernel
theorem dX12_nameOf_61 : decode cX12_nameOf 61 = .ok (.iload 6, 2) := by decide +kernel
theorem dX12_nameOf_63 : decode cX12_nameOf 63 = .ok (.iload_n 2, 1) := by decide +kernel
theorem dX12_nameOf_64 : decode cX12_nameOf 64 = .ok (.if_icmp .ge 46, 3) := by decide +kernel
theorem dX12_nameOf_67 : decode cX12_nameOf 67 = .ok (.iload 5, 2) := by decide +kernel
theorem dX12_nameOf_69 : decode cX12_nameOf 69 = .ok (.ifCond .eq 41, 3) := by decide +kernel
theorem dX12_nameOf_72 : decode cX12_nameOf 72 = .ok (.aload_n 0, 1) := by decide +kernel
theorem dX12_nameOf_73 : decode cX12_nameOf 73 = .ok (.aload_n 0, 1) := by decide +kernel
theorem dX12_nameOf_74 : decode cX12_nameOf 74 = .ok (.getfield 25, 3) := by decide +kernel
theorem dX12_nameOf_77 : decode cX12_nameOf 77 = .ok (.iload 4, 2) := by decide +kernel
theorem dX12_nameOf_79 : decode cX12_nameOf 79 = .ok (.iaload, 1) := by decide +kernel
theorem dX12_nameOf_80 : decode cX12_nameOf 80 = .ok (.iload 6, 2) := by decide +kernel
theorem dX12_nameOf_82 : decode cX12_nameOf 82 = .ok (.iadd, 1) := by decide +kernel
theorem dX12_nameOf_83 : decode cX12_nameOf 83 = .ok (.invokevirtual 177, 3) := by decide +kernel
theorem dX12_nameOf_86 : decode cX12_nameOf 86 = .ok (.aload_n 0, 1) := by decide +kernel
theorem dX12_nameOf_87 : decode cX12_nameOf 87 = .ok (.iload_n 1, 1) := by decide +kernel
theorem dX12_nameOf_88 : decode cX12_nameOf 88 = .ok (.iload 6, 2) := by decide +kernel
theorem dX12_nameOf_90 : decode cX12_nameOf 90 = .ok (.iadd, 1) := by decide +kernel
theorem dX12_nameOf_91 : decode cX12_nameOf 91 = .ok (.invokevirtual 177, 3) := by decide +kernel
theorem dX12_nameOf_94 : decode cX12_nameOf 94 = .ok (.if_icmp .ne 7, 3) := by decide +kernel
theorem dX12_nameOf_97 : decode cX12_nameOf 97 = .ok (.iconst 1, 1) := by decide +kernel
theorem dX12_nameOf_98 : decode cX12_nameOf 98 = .ok (.goto 4, 3) := by decide +kernel
theorem dX12_nameOf_101 : decode cX12_nameOf 101 = .ok (.iconst 0, 1) := by decide +kernel
theorem dX12_nameOf_102 : decode cX12_nameOf 102 = .ok (.istore 5, 2) := by decide +kernel
theorem dX12_nameOf_104 : decode cX12_nameOf 104 = .ok (.iinc 6 1, 3) := by decide +kernel
theorem dX12_nameOf_107 : decode cX12_nameOf 107 = .ok (.goto (-46), 3) := by decide +kernel
theorem dX12_nameOf_110 : decode cX12_nameOf 110 = .ok (.iload 5, 2) := by decide +kernel
theorem dX12_nameOf_112 : decode cX12_nameOf 112 = .ok (.ifCond .eq 6, 3) := by decide +kernel
theorem dX12_nameOf_115 : decode cX12_nameOf 115 = .ok (.iload 4, 2) := by decide +kernel
theorem dX12_nameOf_117 : decode cX12_nameOf 117 = .ok (.ireturn, 1) := by decide +kernel
theorem dX12_nameOf_118 : decode cX12_nameOf 118 = .ok (.aload_n 0, 1) := by decide +kernel
theorem dX12_nameOf_119 : decode cX12_nameOf 119 = .ok (.getfield 31, 3) := by decide +kernel
theorem dX12_nameOf_122 : decode cX12_nameOf 122 = .ok (.iload 4, 2) := by decide +kernel
theorem dX12_nameOf_124 : decode cX12_nameOf 124 = .ok (.iaload, 1) := by decide +kernel
theorem dX12_nameOf_125 : decode cX12_nameOf 125 = .ok (.istore 4, 2) := by decide +kernel
theorem dX12_nameOf_127 : decode cX12_nameOf 127 = .ok (.goto (-93), 3) := by decide +kernel
theorem dX12_nameOf_130 : decode cX12_nameOf 130 = .ok (.aload_n 0, 1) := by decide +kernel
theorem dX12_nameOf_131 : decode cX12_nameOf 131 = .ok (.getfield 25, 3) := by decide +kernel
theorem dX12_nameOf_134 : decode cX12_nameOf 134 = .ok (.aload_n 0, 1) := by decide +kernel
theorem dX12_nameOf_135 : decode cX12_nameOf 135 = .ok (.getfield 181, 3) := by decide +kernel
theorem dX12_nameOf_138 : decode cX12_nameOf 138 = .ok (.iload_n 1, 1) := by decide +kernel
theorem dX12_nameOf_139 : decode cX12_nameOf 139 = .ok (.iastore, 1) := by decide +kernel
theorem dX12_nameOf_140 : decode cX12_nameOf 140 = .ok (.aload_n 0, 1) := by decide +kernel
theorem dX12_nameOf_141 : decode cX12_nameOf 141 = .ok (.getfield 28, 3) := by decide +kernel
theorem dX12_nameOf_144 : decode cX12_nameOf 144 = .ok (.aload_n 0, 1) := by decide +kernel
theorem dX12_nameOf_145 : decode cX12_nameOf 145 = .ok (.getfield 181, 3) := by decide +kernel
theorem dX12_nameOf_148 : decode cX12_nameOf 148 = .ok (.iload_n 2, 1) := by decide +kernel
theorem dX12_nameOf_149 : decode cX12_nameOf 149 = .ok (.iastore, 1) := by decide +kernel
theorem dX12_nameOf_150 : decode cX12_nameOf 150 = .ok (.aload_n 0, 1) := by decide +kernel
theorem dX12_nameOf_151 : decode cX12_nameOf 151 = .ok (.getfield 31, 3) := by decide +kernel
theorem dX12_nameOf_154 : decode cX12_nameOf 154 = .ok (.aload_n 0, 1) := by decide +kernel
theorem dX12_nameOf_155 : decode cX12_nameOf 155 = .ok (.getfield 181, 3) := by decide +kernel
theorem dX12_nameOf_158 : decode cX12_nameOf 158 = .ok (.aload_n 0, 1) := by decide +kernel
theorem dX12_nameOf_159 : decode cX12_nameOf 159 = .ok (.getfield 34, 3) := by decide +kernel
theorem dX12_nameOf_162 : decode cX12_nameOf 162 = .ok (.iload_n 3, 1) := by decide +kernel
theorem dX12_nameOf_163 : decode cX12_nameOf 163 = .ok (.iaload, 1) := by decide +kernel
theorem dX12_nameOf_164 : decode cX12_nameOf 164 = .ok (.iastore, 1) := by decide +kernel
theorem dX12_nameOf_165 : decode cX12_nameOf 165 = .ok (.aload_n 0, 1) := by decide +kernel
theorem dX12_nameOf_166 : decode cX12_nameOf 166 = .ok (.getfield 34, 3) := by decide +kernel
theorem dX12_nameOf_169 : decode cX12_nameOf 169 = .ok (.iload_n 3, 1) := by decide +kernel
theorem dX12_nameOf_170 : decode cX12_nameOf 170 = .ok (.aload_n 0, 1) := by decide +kernel
theorem dX12_nameOf_171 : decode cX12_nameOf 171 = .ok (.getfield 181, 3) := by decide +kernel
theorem dX12_nameOf_174 : decode cX12_nameOf 174 = .ok (.iastore, 1) := by decide +kernel
theorem dX12_nameOf_175 : decode cX12_nameOf 175 = .ok (.aload_n 0, 1) := by decide +kernel
theorem dX12_nameOf_176 : decode cX12_nameOf 176 = .ok (.dup, 1) := by decide +kernel
theorem dX12_nameOf_177 : decode cX12_nameOf 177 = .ok (.getfield 181, 3) := by decide +kernel
theorem dX12_nameOf_180 : decode cX12_nameOf 180 = .ok (.iconst 1, 1) := by decide +kernel
theorem dX12_nameOf_181 : decode cX12_nameOf 181 = .ok (.iadd, 1) := by decide +kernel
theorem dX12_nameOf_182 : decode cX12_nameOf 182 = .ok (.putfield 181, 3) := by decide +kernel
theorem dX12_nameOf_185 : decode cX12_nameOf 185 = .ok (.aload_n 0, 1) := by decide +kernel
theorem dX12_nameOf_186 : decode cX12_nameOf 186 = .ok (.getfield 181, 3) := by decide +kernel
theorem dX12_nameOf_189 : decode cX12_nameOf 189 = .ok (.iconst 1, 1) := by decide +kernel
theorem dX12_nameOf_190 : decode cX12_nameOf 190 = .ok (.isub, 1) := by decide +kernel
theorem dX12_nameOf_191 : decode cX12_nameOf 191 = .ok (.ireturn, 1) := by decide +kernel
theorem dX12_skip_0 : decode cX12_skip 0 = .ok (.iload_n 1, 1) := by decide +kernel
theorem dX12_skip_1 : decode cX12_skip 1 = .ok (.istore_n 2, 1) := by decide +kernel
theorem dX12_skip_2 : decode cX12_skip 2 = .ok (.iload_n 2, 1) := by decide +kernel
theorem dX12_skip_3 : decode cX12_skip 3 = .ok (.aload_n 0, 1) := by decide +kernel
theorem dX12_skip_4 : decode cX12_skip 4 = .ok (.getfield 157, 3) := by decide +kernel
theorem dX12_skip_7 : decode cX12_skip 7 = .ok (.if_icmp .ge 161, 3) := by decide +kernel
theorem dX12_skip_10 : decode cX12_skip 10 = .ok (.aload_n 0, 1) := by decide +kernel
theorem dX12_skip_11 : decode cX12_skip 11 = .ok (.iload_n 2, 1) := by decide +kernel
theorem dX12_skip_12 : decode cX12_skip 12 = .ok (.invokevirtual 177, 3) := by decide +kernel
theorem dX12_skip_15 : decode cX12_skip 15 = .ok (.bipush 10, 2) := by decide +kernel
theorem dX12_skip_17 : decode cX12_skip 17 = .ok (.if_icmp .eq 13, 3) := by decide +kernel
theorem dX12_skip_20 : decode cX12_skip 20 = .ok (.aload_n 0, 1) := by decide +kernel
theorem dX12_skip_21 : decode cX12_skip 21 = .ok (.iload_n 2, 1) := by decide +kernel
theorem dX12_skip_22 : decode cX12_skip 22 = .ok (.invokevirtual 177, 3) := by decide +kernel
theorem dX12_skip_25 : decode cX12_skip 25 = .ok (.bipush 32, 2) := by decide +kernel
theorem dX12_skip_27 : decode cX12_skip 27 = .ok (.if_icmp .ne 9, 3) := by decide +kernel
theorem dX12_skip_30 : decode cX12_skip 30 = .ok (.iinc 2 1, 3) := by decide +kernel
theorem dX12_skip_33 : decode cX12_skip 33 = .ok (.goto (-31), 3) := by decide +kernel
theorem dX12_skip_36 : decode cX12_skip 36 = .ok (.aload_n 0, 1) := by decide +kernel
theorem dX12_skip_37 : decode cX12_skip 37 = .ok (.iload_n 2, 1) := by decide +kernel
theorem dX12_skip_38 : decode cX12_skip 38 = .ok (.invokevirtual 177, 3) := by decide +kernel
theorem dX12_skip_41 : decode cX12_skip 41 = .ok (.bipush 47, 2) := by decide +kernel
theorem dX12_skip_43 : decode cX12_skip 43 = .ok (.if_icmp .ne 39, 3) := by decide +kernel
theorem dX12_skip_46 : decode cX12_skip 46 = .ok (.aload_n 0, 1) := by decide +kernel
theorem dX12_skip_47 : decode cX12_skip 47 = .ok (.iload_n 2, 1) := by decide +kernel
theorem dX12_skip_48 : decode cX12_skip 48 = .ok (.iconst 1, 1) := by decide +kernel
theorem dX12_skip_49 : decode cX12_skip 49 = .ok (.iadd, 1) := by decide +kernel
theorem dX12_skip_50 : decode cX12_skip 50 = .ok (.invokevirtual 177, 3) := by decide +kernel
theorem dX12_skip_53 : decode cX12_skip 53 = .ok (.bipush 47, 2) := by decide +kernel
theorem dX12_skip_55 : decode cX12_skip 55 = .ok (.if_icmp .ne 27, 3) := by decide +kernel
theorem dX12_skip_58 : decode cX12_skip 58 = .ok (.iload_n 2, 1) := by decide +kernel
theorem dX12_skip_59 : decode cX12_skip 59 = .ok (.aload_n 0, 1) := by decide +kernel
theorem dX12_skip_60 : decode cX12_skip 60 = .ok (.getfield 157, 3) := by decide +kernel
theorem dX12_skip_63 : decode cX12_skip 63 = .ok (.if_icmp .ge (-61), 3) := by decide +kernel
theorem dX12_skip_66 : decode cX12_skip 66 = .ok (.aload_n 0, 1) := by decide +kernel
theorem dX12_skip_67 : decode cX12_skip 67 = .ok (.iload_n 2, 1) := by decide +kernel
theorem dX12_skip_68 : decode cX12_skip 68 = .ok (.invokevirtual 177, 3) := by decide +kernel
theorem dX12_skip_71 : decode cX12_skip 71 = .ok (.bipush 10, 2) := by decide +kernel
theorem dX12_skip_73 : decode cX12_skip 73 = .ok (.if_icmp .eq (-71), 3) := by decide +kernel
theorem dX12_skip_76 : decode cX12_skip 76 = .ok (.iinc 2 1, 3) := by decide +kernel
theorem dX12_skip_79 : decode cX12_skip 79 = .ok (.goto (-21), 3) := by decide +kernel
theorem dX12_skip_82 : decode cX12_skip 82 = .ok (.aload_n 0, 1) := by decide +kernel
theorem dX12_skip_83 : decode cX12_skip 83 = .ok (.iload_n 2, 1) := by decide +kernel
theorem dX12_skip_84 : decode cX12_skip 84 = .ok (.invokevirtual 177, 3) := by decide +kernel
theorem dX12_skip_87 : decode cX12_skip 87 = .ok (.bipush 47, 2) := by decide +kernel
theorem dX12_skip_89 : decode cX12_skip 89 = .ok (.if_icmp .ne 77, 3) := by decide +kernel
theorem dX12_skip_92 : decode cX12_skip 92 = .ok (.aload_n 0, 1) := by decide +kernel
theorem dX12_skip_93 : decode cX12_skip 93 = .ok (.iload_n 2, 1) := by decide +kernel
theorem dX12_skip_94 : decode cX12_skip 94 = .ok (.iconst 1, 1) := by decide +kernel
theorem dX12_skip_95 : decode cX12_skip 95 = .ok (.iadd, 1) := by decide +kernel
theorem dX12_skip_96 : decode cX12_skip 96 = .ok (.invokevirtual 177, 3) := by decide +kernel
theorem dX12_skip_99 : decode cX12_skip 99 = .ok (.bipush 42, 2) := by decide +kernel
theorem dX12_skip_101 : decode cX12_skip 101 = .ok (.if_icmp .ne 65, 3) := by decide +kernel
theorem dX12_skip_104 : decode cX12_skip 104 = .ok (.iload_n 2, 1) := by decide +kernel
theorem dX12_skip_105 : decode cX12_skip 105 = .ok (.iconst 2, 1) := by decide +kernel
theorem dX12_skip_106 : decode cX12_skip 106 = .ok (.iadd, 1) := by decide +kernel
theorem dX12_skip_107 : decode cX12_skip 107 = .ok (.istore_n 3, 1) := by decide +kernel
theorem dX12_skip_108 : decode cX12_skip 108 = .ok (.iload_n 3, 1) := by decide +kernel
theorem dX12_skip_109 : decode cX12_skip 109 = .ok (.aload_n 0, 1) := by decide +kernel
theorem dX12_skip_110 : decode cX12_skip 110 = .ok (.getfield 157, 3) := by decide +kernel
theorem dX12_skip_113 : decode cX12_skip 113 = .ok (.if_icmp .ge 31, 3) := by decide +kernel
theorem dX12_skip_116 : decode cX12_skip 116 = .ok (.aload_n 0, 1) := by decide +kernel
theorem dX12_skip_117 : decode cX12_skip 117 = .ok (.iload_n 3, 1) := by decide +kernel
theorem dX12_skip_118 : decode cX12_skip 118 = .ok (.invokevirtual 177, 3) := by decide +kernel
theorem dX12_skip_121 : decode cX12_skip 121 = .ok (.bipush 42, 2) := by decide +kernel
theorem dX12_skip_123 : decode cX12_skip 123 = .ok (.if_icmp .ne 15, 3) := by decide +kernel
theorem dX12_skip_126 : decode cX12_skip 126 = .ok (.aload_n 0, 1) := by decide +kernel
theorem dX12_skip_127 : decode cX12_skip 127 = .ok (.iload_n 3, 1) := by decide +kernel
theorem dX12_skip_128 : decode cX12_skip 128 = .ok (.iconst 1, 1) := by decide +kernel
theorem dX12_skip_129 : decode cX12_skip 129 = .ok (.iadd, 1) := by decide +kernel
theorem dX12_skip_130 : decode cX12_skip 130 = .ok (.invokevirtual 177, 3) := by decide +kernel
theorem dX12_skip_133 : decode cX12_skip 133 = .ok (.bipush 47, 2) := by decide +kernel
theorem dX12_skip_135 : decode cX12_skip 135 = .ok (.if_icmp .eq 9, 3) := by decide +kernel
theorem dX12_skip_138 : decode cX12_skip 138 = .ok (.iinc 3 1, 3) := by decide +kernel
theorem dX12_skip_141 : decode cX12_skip 141 = .ok (.goto (-33), 3) := by decide +kernel
theorem dX12_skip_144 : decode cX12_skip 144 = .ok (.iload_n 3, 1) := by decide +kernel
theorem dX12_skip_145 : decode cX12_skip 145 = .ok (.aload_n 0, 1) := by decide +kernel
theorem dX12_skip_146 : decode cX12_skip 146 = .ok (.getfield 157, 3) := by decide +kernel
theorem dX12_skip_149 : decode cX12_skip 149 = .ok (.if_icmp .lt 10, 3) := by decide +kernel
theorem dX12_skip_152 : decode cX12_skip 152 = .ok (.aload_n 0, 1) := by decide +kernel
theorem dX12_skip_153 : decode cX12_skip 153 = .ok (.iload_n 2, 1) := by decide +kernel
theorem dX12_skip_154 : decode cX12_skip 154 = .ok (.putfield 184, 3) := by decide +kernel
theorem dX12_skip_157 : decode cX12_skip 157 = .ok (.iconst (-1), 1) := by decide +kernel
theorem dX12_skip_158 : decode cX12_skip 158 = .ok (.ireturn, 1) := by decide +kernel
theorem dX12_skip_159 : decode cX12_skip 159 = .ok (.iload_n 3, 1) := by decide +kernel
theorem dX12_skip_160 : decode cX12_skip 160 = .ok (.iconst 2, 1) := by decide +kernel
theorem dX12_skip_161 : decode cX12_skip 161 = .ok (.iadd, 1) := by decide +kernel
theorem dX12_skip_162 : decode cX12_skip 162 = .ok (.istore_n 2, 1) := by decide +kernel
theorem dX12_skip_163 : decode cX12_skip 163 = .ok (.goto (-161), 3) := by decide +kernel
theorem dX12_skip_166 : decode cX12_skip 166 = .ok (.iload_n 2, 1) := by decide +kernel
theorem dX12_skip_167 : decode cX12_skip 167 = .ok (.ireturn, 1) := by decide +kernel
theorem dX12_skip_168 : decode cX12_skip 168 = .ok (.iload_n 2, 1) := by decide +kernel
theorem dX12_skip_169 : decode cX12_skip 169 = .ok (.ireturn, 1) := by decide +kernel
theorem dX12_cut_0 : decode cX12_cut 0 = .ok (.aload_n 0, 1) := by decide +kernel
theorem dX12_cut_1 : decode cX12_cut 1 = .ok (.iconst 0, 1) := by decide +kernel
theorem dX12_cut_2 : decode cX12_cut 2 = .ok (.putfield 187, 3) := by decide +kernel
theorem dX12_cut_5 : decode cX12_cut 5 = .ok (.aload_n 0, 1) := by decide +kernel
theorem dX12_cut_6 : decode cX12_cut 6 = .ok (.iconst 0, 1) := by decide +kernel
theorem dX12_cut_7 : decode cX12_cut 7 = .ok (.putfield 181, 3) := by decide +kernel
theorem dX12_cut_10 : decode cX12_cut 10 = .ok (.aload_n 0, 1) := by decide +kernel
theorem dX12_cut_11 : decode cX12_cut 11 = .ok (.iconst (-1), 1) := by decide +kernel
theorem dX12_cut_12 : decode cX12_cut 12 = .ok (.putfield 184, 3) := by decide +kernel
theorem dX12_cut_15 : decode cX12_cut 15 = .ok (.iconst 0, 1) := by decide +kernel
theorem dX12_cut_16 : decode cX12_cut 16 = .ok (.istore_n 1, 1) := by decide +kernel
theorem dX12_cut_17 : decode cX12_cut 17 = .ok (.iload_n 1, 1) := by decide +kernel
theorem dX12_cut_18 : decode cX12_cut 18 = .ok (.bipush 64, 2) := by decide +kernel
theorem dX12_cut_20 : decode cX12_cut 20 = .ok (.if_icmp .ge 16, 3) := by decide +kernel
theorem dX12_cut_23 : decode cX12_cut 23 = .ok (.aload_n 0, 1) := by decide +kernel
theorem dX12_cut_24 : decode cX12_cut 24 = .ok (.getfield 34, 3) := by decide +kernel
theorem dX12_cut_27 : decode cX12_cut 27 = .ok (.iload_n 1, 1) := by decide +kernel
theorem dX12_cut_28 : decode cX12_cut 28 = .ok (.iconst (-1), 1) := by decide +kernel
theorem dX12_cut_29 : decode cX12_cut 29 = .ok (.iastore, 1) := by decide +kernel
theorem dX12_cut_30 : decode cX12_cut 30 = .ok (.iinc 1 1, 3) := by decide +kernel
theorem dX12_cut_33 : decode cX12_cut 33 = .ok (.goto (-16), 3) := by decide +kernel
theorem dX12_cut_36 : decode cX12_cut 36 = .ok (.aload_n 0, 1) := by decide +kernel
theorem dX12_cut_37 : decode cX12_cut 37 = .ok (.iconst 0, 1) := by decide +kernel
theorem dX12_cut_38 : decode cX12_cut 38 = .ok (.invokevirtual 190, 3) := by decide +kernel
theorem dX12_cut_41 : decode cX12_cut 41 = .ok (.istore_n 1, 1) := by decide +kernel
theorem dX12_cut_42 : decode cX12_cut 42 = .ok (.iload_n 1, 1) := by decide +kernel
theorem dX12_cut_43 : decode cX12_cut 43 = .ok (.iconst (-1), 1) := by decide +kernel
theorem dX12_cut_44 : decode cX12_cut 44 = .ok (.if_icmp .eq 45, 3) := by decide +kernel
theorem dX12_cut_47 : decode cX12_cut 47 = .ok (.iload_n 1, 1) := by decide +kernel
theorem dX12_cut_48 : decode cX12_cut 48 = .ok (.aload_n 0, 1) := by decide +kernel
theorem dX12_cut_49 : decode cX12_cut 49 = .ok (.getfield 157, 3) := by decide +kernel
theorem dX12_cut_52 : decode cX12_cut 52 = .ok (.if_icmp .ge 37, 3) := by decide +kernel
theorem dX12_cut_55 : decode cX12_cut 55 = .ok (.aload_n 0, 1) := by decide +kernel
theorem dX12_cut_56 : decode cX12_cut 56 = .ok (.iload_n 1, 1) := by decide +kernel
theorem dX12_cut_57 : decode cX12_cut 57 = .ok (.invokevirtual 193, 3) := by decide +kernel
theorem dX12_cut_60 : decode cX12_cut 60 = .ok (.istore_n 2, 1) := by decide +kernel
theorem dX12_cut_61 : decode cX12_cut 61 = .ok (.iload_n 2, 1) := by decide +kernel
theorem dX12_cut_62 : decode cX12_cut 62 = .ok (.iconst (-1), 1) := by decide +kernel
theorem dX12_cut_63 : decode cX12_cut 63 = .ok (.if_icmp .ne 8, 3) := by decide +kernel
theorem dX12_cut_66 : decode cX12_cut 66 = .ok (.aload_n 0, 1) := by decide +kernel
theorem dX12_cut_67 : decode cX12_cut 67 = .ok (.iload_n 1, 1) := by decide +kernel
theorem dX12_cut_68 : decode cX12_cut 68 = .ok (.putfield 184, 3) := by decide +kernel
theorem dX12_cut_71 : decode cX12_cut 71 = .ok (.iload_n 2, 1) := by decide +kernel
theorem dX12_cut_72 : decode cX12_cut 72 = .ok (.iconst (-1), 1) := by decide +kernel
theorem dX12_cut_73 : decode cX12_cut 73 = .ok (.if_icmp .ne 7, 3) := by decide +kernel
theorem dX12_cut_76 : decode cX12_cut 76 = .ok (.iconst (-1), 1) := by decide +kernel
theorem dX12_cut_77 : decode cX12_cut 77 = .ok (.goto 8, 3) := by decide +kernel
theorem dX12_cut_80 : decode cX12_cut 80 = .ok (.aload_n 0, 1) := by decide +kernel
theorem dX12_cut_81 : decode cX12_cut 81 = .ok (.iload_n 2, 1) := by decide +kernel
theorem dX12_cut_82 : decode cX12_cut 82 = .ok (.invokevirtual 190, 3) := by decide +kernel
theorem dX12_cut_85 : decode cX12_cut 85 = .ok (.istore_n 1, 1) := by decide +kernel
theorem dX12_cut_86 : decode cX12_cut 86 = .ok (.goto (-44), 3) := by decide +kernel
theorem dX12_cut_89 : decode cX12_cut 89 = .ok (.aload_n 0, 1) := by decide +kernel
theorem dX12_cut_90 : decode cX12_cut 90 = .ok (.getfield 16, 3) := by decide +kernel
theorem dX12_cut_93 : decode cX12_cut 93 = .ok (.aload_n 0, 1) := by decide +kernel
theorem dX12_cut_94 : decode cX12_cut 94 = .ok (.getfield 187, 3) := by decide +kernel
theorem dX12_cut_97 : decode cX12_cut 97 = .ok (.iconst 0, 1) := by decide +kernel
theorem dX12_cut_98 : decode cX12_cut 98 = .ok (.iastore, 1) := by decide +kernel
theorem dX12_cut_99 : decode cX12_cut 99 = .ok (.aload_n 0, 1) := by decide +kernel
theorem dX12_cut_100 : decode cX12_cut 100 = .ok (.getfield 22, 3) := by decide +kernel
theorem dX12_cut_103 : decode cX12_cut 103 = .ok (.aload_n 0, 1) := by decide +kernel
theorem dX12_cut_104 : decode cX12_cut 104 = .ok (.getfield 187, 3) := by decide +kernel
theorem dX12_cut_107 : decode cX12_cut 107 = .ok (.aload_n 0, 1) := by decide +kernel
theorem dX12_cut_108 : decode cX12_cut 108 = .ok (.getfield 157, 3) := by decide +kernel
theorem dX12_cut_111 : decode cX12_cut 111 = .ok (.iastore, 1) := by decide +kernel
theorem dX12_cut_112 : decode cX12_cut 112 = .ok (.return_, 1) := by decide +kernel
theorem dX12_token_0 : decode cX12_token 0 = .ok (.aload_n 0, 1) := by decide +kernel
theorem dX12_token_1 : decode cX12_token 1 = .ok (.getfield 16, 3) := by decide +kernel
theorem dX12_token_4 : decode cX12_token 4 = .ok (.aload_n 0, 1) := by decide +kernel
theorem dX12_token_5 : decode cX12_token 5 = .ok (.getfield 187, 3) := by decide +kernel
theorem dX12_token_8 : decode cX12_token 8 = .ok (.iload_n 1, 1) := by decide +kernel
theorem dX12_token_9 : decode cX12_token 9 = .ok (.iastore, 1) := by decide +kernel
theorem dX12_token_10 : decode cX12_token 10 = .ok (.aload_n 0, 1) := by decide +kernel
theorem dX12_token_11 : decode cX12_token 11 = .ok (.getfield 19, 3) := by decide +kernel
theorem dX12_token_14 : decode cX12_token 14 = .ok (.aload_n 0, 1) := by decide +kernel
theorem dX12_token_15 : decode cX12_token 15 = .ok (.getfield 187, 3) := by decide +kernel
theorem dX12_token_18 : decode cX12_token 18 = .ok (.iload_n 2, 1) := by decide +kernel
theorem dX12_token_19 : decode cX12_token 19 = .ok (.iastore, 1) := by decide +kernel
theorem dX12_token_20 : decode cX12_token 20 = .ok (.aload_n 0, 1) := by decide +kernel
theorem dX12_token_21 : decode cX12_token 21 = .ok (.getfield 22, 3) := by decide +kernel
theorem dX12_token_24 : decode cX12_token 24 = .ok (.aload_n 0, 1) := by decide +kernel
theorem dX12_token_25 : decode cX12_token 25 = .ok (.getfield 187, 3) := by decide +kernel
theorem dX12_token_28 : decode cX12_token 28 = .ok (.iload_n 3, 1) := by decide +kernel
theorem dX12_token_29 : decode cX12_token 29 = .ok (.iastore, 1) := by decide +kernel
theorem dX12_token_30 : decode cX12_token 30 = .ok (.aload_n 0, 1) := by decide +kernel
theorem dX12_token_31 : decode cX12_token 31 = .ok (.dup, 1) := by decide +kernel
theorem dX12_token_32 : decode cX12_token 32 = .ok (.getfield 187, 3) := by decide +kernel
theorem dX12_token_35 : decode cX12_token 35 = .ok (.iconst 1, 1) := by decide +kernel
theorem dX12_token_36 : decode cX12_token 36 = .ok (.iadd, 1) := by decide +kernel
theorem dX12_token_37 : decode cX12_token 37 = .ok (.putfield 187, 3) := by decide +kernel
theorem dX12_token_40 : decode cX12_token 40 = .ok (.return_, 1) := by decide +kernel
theorem dX12_tokenAt_0 : decode cX12_tokenAt 0 = .ok (.aload_n 0, 1) := by decide +kernel
theorem dX12_tokenAt_1 : decode cX12_tokenAt 1 = .ok (.iload_n 1, 1) := by decide +kernel
theorem dX12_tokenAt_2 : decode cX12_tokenAt 2 = .ok (.invokevirtual 177, 3) := by decide +kernel
theorem dX12_tokenAt_5 : decode cX12_tokenAt 5 = .ok (.istore_n 2, 1) := by decide +kernel
theorem dX12_tokenAt_6 : decode cX12_tokenAt 6 = .ok (.iload_n 2, 1) := by decide +kernel
theorem dX12_tokenAt_7 : decode cX12_tokenAt 7 = .ok (.invokestatic 160, 3) := by decide +kernel
theorem dX12_tokenAt_10 : decode cX12_tokenAt 10 = .ok (.ifCond .eq 9, 3) := by decide +kernel
theorem dX12_tokenAt_13 : decode cX12_tokenAt 13 = .ok (.aload_n 0, 1) := by decide +kernel
theorem dX12_tokenAt_14 : decode cX12_tokenAt 14 = .ok (.iload_n 1, 1) := by decide +kernel
theorem dX12_tokenAt_15 : decode cX12_tokenAt 15 = .ok (.invokevirtual 196, 3) := by decide +kernel
theorem dX12_tokenAt_18 : decode cX12_tokenAt 18 = .ok (.ireturn, 1) := by decide +kernel
theorem dX12_tokenAt_19 : decode cX12_tokenAt 19 = .ok (.iload_n 2, 1) := by decide +kernel
theorem dX12_tokenAt_20 : decode cX12_tokenAt 20 = .ok (.invokestatic 164, 3) := by decide +kernel
theorem dX12_tokenAt_23 : decode cX12_tokenAt 23 = .ok (.ifCond .eq 9, 3) := by decide +kernel
theorem dX12_tokenAt_26 : decode cX12_tokenAt 26 = .ok (.aload_n 0, 1) := by decide +kernel
theorem dX12_tokenAt_27 : decode cX12_tokenAt 27 = .ok (.iload_n 1, 1) := by decide +kernel
theorem dX12_tokenAt_28 : decode cX12_tokenAt 28 = .ok (.invokevirtual 199, 3) := by decide +kernel
theorem dX12_tokenAt_31 : decode cX12_tokenAt 31 = .ok (.ireturn, 1) := by decide +kernel
theorem dX12_tokenAt_32 : decode cX12_tokenAt 32 = .ok (.iconst 4, 1) := by decide +kernel
theorem dX12_tokenAt_33 : decode cX12_tokenAt 33 = .ok (.istore_n 3, 1) := by decide +kernel
theorem dX12_tokenAt_34 : decode cX12_tokenAt 34 = .ok (.iload_n 3, 1) := by decide +kernel
theorem dX12_tokenAt_35 : decode cX12_tokenAt 35 = .ok (.ifCond .le 54, 3) := by decide +kernel
theorem dX12_tokenAt_38 : decode cX12_tokenAt 38 = .ok (.iload_n 1, 1) := by decide +kernel
theorem dX12_tokenAt_39 : decode cX12_tokenAt 39 = .ok (.iload_n 3, 1) := by decide +kernel
theorem dX12_tokenAt_40 : decode cX12_tokenAt 40 = .ok (.iadd, 1) := by decide +kernel
theorem dX12_tokenAt_41 : decode cX12_tokenAt 41 = .ok (.aload_n 0, 1) := by decide +kernel
theorem dX12_tokenAt_42 : decode cX12_tokenAt 42 = .ok (.getfield 157, 3) := by decide +kernel
theorem dX12_tokenAt_45 : decode cX12_tokenAt 45 = .ok (.if_icmp .gt 14, 3) := by decide +kernel
theorem dX12_tokenAt_48 : decode cX12_tokenAt 48 = .ok (.aload_n 0, 1) := by decide +kernel
theorem dX12_tokenAt_49 : decode cX12_tokenAt 49 = .ok (.ldc 202, 2) := by decide +kernel
theorem dX12_tokenAt_51 : decode cX12_tokenAt 51 = .ok (.iload_n 1, 1) := by decide +kernel
theorem dX12_tokenAt_52 : decode cX12_tokenAt 52 = .ok (.iload_n 3, 1) := by decide +kernel
theorem dX12_tokenAt_53 : decode cX12_tokenAt 53 = .ok (.invokevirtual 204, 3) := by decide +kernel
theorem dX12_tokenAt_56 : decode cX12_tokenAt 56 = .ok (.goto 4, 3) := by decide +kernel
theorem dX12_tokenAt_59 : decode cX12_tokenAt 59 = .ok (.iconst (-1), 1) := by decide +kernel
theorem dX12_tokenAt_60 : decode cX12_tokenAt 60 = .ok (.istore 4, 2) := by decide +kernel
theorem dX12_tokenAt_62 : decode cX12_tokenAt 62 = .ok (.iload 4, 2) := by decide +kernel
theorem dX12_tokenAt_64 : decode cX12_tokenAt 64 = .ok (.iconst (-1), 1) := by decide +kernel
theorem dX12_tokenAt_65 : decode cX12_tokenAt 65 = .ok (.if_icmp .ne 6, 3) := by decide +kernel
theorem dX12_tokenAt_68 : decode cX12_tokenAt 68 = .ok (.goto 15, 3) := by decide +kernel
theorem dX12_tokenAt_71 : decode cX12_tokenAt 71 = .ok (.aload_n 0, 1) := by decide +kernel
theorem dX12_tokenAt_72 : decode cX12_tokenAt 72 = .ok (.iconst 4, 1) := by decide +kernel
theorem dX12_tokenAt_73 : decode cX12_tokenAt 73 = .ok (.iload 4, 2) := by decide +kernel
theorem dX12_tokenAt_75 : decode cX12_tokenAt 75 = .ok (.iload_n 1, 1) := by decide +kernel
theorem dX12_tokenAt_76 : decode cX12_tokenAt 76 = .ok (.invokevirtual 208, 3) := by decide +kernel
theorem dX12_tokenAt_79 : decode cX12_tokenAt 79 = .ok (.iload_n 1, 1) := by decide +kernel
theorem dX12_tokenAt_80 : decode cX12_tokenAt 80 = .ok (.iload_n 3, 1) := by decide +kernel
theorem dX12_tokenAt_81 : decode cX12_tokenAt 81 = .ok (.iadd, 1) := by decide +kernel
theorem dX12_tokenAt_82 : decode cX12_tokenAt 82 = .ok (.ireturn, 1) := by decide +kernel
theorem dX12_tokenAt_83 : decode cX12_tokenAt 83 = .ok (.iinc 3 (-1), 3) := by decide +kernel
theorem dX12_tokenAt_86 : decode cX12_tokenAt 86 = .ok (.goto (-52), 3) := by decide +kernel
theorem dX12_tokenAt_89 : decode cX12_tokenAt 89 = .ok (.iconst (-1), 1) := by decide +kernel
theorem dX12_tokenAt_90 : decode cX12_tokenAt 90 = .ok (.ireturn, 1) := by decide +kernel
theorem dX12_wordToken_0 : decode cX12_wordToken 0 = .ok (.iload_n 1, 1) := by decide +kernel
theorem dX12_wordToken_1 : decode cX12_wordToken 1 = .ok (.istore_n 2, 1) := by decide +kernel
theorem dX12_wordToken_2 : decode cX12_wordToken 2 = .ok (.aload_n 0, 1) := by decide +kernel
theorem dX12_wordToken_3 : decode cX12_wordToken 3 = .ok (.iload_n 2, 1) := by decide +kernel
theorem dX12_wordToken_4 : decode cX12_wordToken 4 = .ok (.invokevirtual 177, 3) := by decide +kernel
theorem dX12_wordToken_7 : decode cX12_wordToken 7 = .ok (.invokestatic 212, 3) := by decide +kernel
theorem dX12_wordToken_10 : decode cX12_wordToken 10 = .ok (.ifCond .eq 9, 3) := by decide +kernel
theorem dX12_wordToken_13 : decode cX12_wordToken 13 = .ok (.iinc 2 1, 3) := by decide +kernel
theorem dX12_wordToken_16 : decode cX12_wordToken 16 = .ok (.goto (-14), 3) := by decide +kernel
theorem dX12_wordToken_19 : decode cX12_wordToken 19 = .ok (.iload_n 2, 1) := by decide +kernel
theorem dX12_wordToken_20 : decode cX12_wordToken 20 = .ok (.iload_n 1, 1) := by decide +kernel
theorem dX12_wordToken_21 : decode cX12_wordToken 21 = .ok (.isub, 1) := by decide +kernel
theorem dX12_wordToken_22 : decode cX12_wordToken 22 = .ok (.bipush 16, 2) := by decide +kernel
theorem dX12_wordToken_24 : decode cX12_wordToken 24 = .ok (.if_icmp .le 5, 3) := by decide +kernel
theorem dX12_wordToken_27 : decode cX12_wordToken 27 = .ok (.iconst (-1), 1) := by decide +kernel
theorem dX12_wordToken_28 : decode cX12_wordToken 28 = .ok (.ireturn, 1) := by decide +kernel
theorem dX12_wordToken_29 : decode cX12_wordToken 29 = .ok (.aload_n 0, 1) := by decide +kernel
theorem dX12_wordToken_30 : decode cX12_wordToken 30 = .ok (.ldc 215, 2) := by decide +kernel
theorem dX12_wordToken_32 : decode cX12_wordToken 32 = .ok (.iload_n 1, 1) := by decide +kernel
theorem dX12_wordToken_33 : decode cX12_wordToken 33 = .ok (.iload_n 2, 1) := by decide +kernel
theorem dX12_wordToken_34 : decode cX12_wordToken 34 = .ok (.iload_n 1, 1) := by decide +kernel
theorem dX12_wordToken_35 : decode cX12_wordToken 35 = .ok (.isub, 1) := by decide +kernel
theorem dX12_wordToken_36 : decode cX12_wordToken 36 = .ok (.invokevirtual 204, 3) := by decide +kernel
theorem dX12_wordToken_39 : decode cX12_wordToken 39 = .ok (.istore_n 3, 1) := by decide +kernel
theorem dX12_wordToken_40 : decode cX12_wordToken 40 = .ok (.aload_n 0, 1) := by decide +kernel
theorem dX12_wordToken_41 : decode cX12_wordToken 41 = .ok (.iload_n 3, 1) := by decide +kernel
theorem dX12_wordToken_42 : decode cX12_wordToken 42 = .ok (.iconst (-1), 1) := by decide +kernel
theorem dX12_wordToken_43 : decode cX12_wordToken 43 = .ok (.if_icmp .ne 7, 3) := by decide +kernel
theorem dX12_wordToken_46 : decode cX12_wordToken 46 = .ok (.iconst 1, 1) := by decide +kernel
theorem dX12_wordToken_47 : decode cX12_wordToken 47 = .ok (.goto 4, 3) := by decide +kernel
theorem dX12_wordToken_50 : decode cX12_wordToken 50 = .ok (.iconst 2, 1) := by decide +kernel
theorem dX12_wordToken_51 : decode cX12_wordToken 51 = .ok (.iload_n 3, 1) := by decide +kernel
theorem dX12_wordToken_52 : decode cX12_wordToken 52 = .ok (.iconst (-1), 1) := by decide +kernel
theorem dX12_wordToken_53 : decode cX12_wordToken 53 = .ok (.if_icmp .ne 14, 3) := by decide +kernel
theorem dX12_wordToken_56 : decode cX12_wordToken 56 = .ok (.aload_n 0, 1) := by decide +kernel
theorem dX12_wordToken_57 : decode cX12_wordToken 57 = .ok (.iload_n 1, 1) := by decide +kernel
theorem dX12_wordToken_58 : decode cX12_wordToken 58 = .ok (.iload_n 2, 1) := by decide +kernel
theorem dX12_wordToken_59 : decode cX12_wordToken 59 = .ok (.iload_n 1, 1) := by decide +kernel
theorem dX12_wordToken_60 : decode cX12_wordToken 60 = .ok (.isub, 1) := by decide +kernel
theorem dX12_wordToken_61 : decode cX12_wordToken 61 = .ok (.invokevirtual 217, 3) := by decide +kernel
theorem dX12_wordToken_64 : decode cX12_wordToken 64 = .ok (.goto 4, 3) := by decide +kernel
theorem dX12_wordToken_67 : decode cX12_wordToken 67 = .ok (.iload_n 3, 1) := by decide +kernel
theorem dX12_wordToken_68 : decode cX12_wordToken 68 = .ok (.iload_n 1, 1) := by decide +kernel
theorem dX12_wordToken_69 : decode cX12_wordToken 69 = .ok (.invokevirtual 208, 3) := by decide +kernel
theorem dX12_wordToken_72 : decode cX12_wordToken 72 = .ok (.iload_n 2, 1) := by decide +kernel
theorem dX12_wordToken_73 : decode cX12_wordToken 73 = .ok (.ireturn, 1) := by decide +kernel
theorem dX12_numberToken_0 : decode cX12_numberToken 0 = .ok (.aload_n 0, 1) := by decide +kernel
theorem dX12_numberToken_1 : decode cX12_numberToken 1 = .ok (.iload_n 1, 1) := by decide +kernel
theorem dX12_numberToken_2 : decode cX12_numberToken 2 = .ok (.invokevirtual 177, 3) := by decide +kernel
theorem dX12_numberToken_5 : decode cX12_numberToken 5 = .ok (.bipush 48, 2) := by decide +kernel
theorem dX12_numberToken_7 : decode cX12_numberToken 7 = .ok (.if_icmp .ne 19, 3) := by decide +kernel
theorem dX12_numberToken_10 : decode cX12_numberToken 10 = .ok (.aload_n 0, 1) := by decide +kernel
theorem dX12_numberToken_11 : decode cX12_numberToken 11 = .ok (.iload_n 1, 1) := by decide +kernel
theorem dX12_numberToken_12 : decode cX12_numberToken 12 = .ok (.iconst 1, 1) := by decide +kernel
theorem dX12_numberToken_13 : decode cX12_numberToken 13 = .ok (.iadd, 1) := by decide +kernel
theorem dX12_numberToken_14 : decode cX12_numberToken 14 = .ok (.invokevirtual 177, 3) := by decide +kernel
theorem dX12_numberToken_17 : decode cX12_numberToken 17 = .ok (.bipush 120, 2) := by decide +kernel
theorem dX12_numberToken_19 : decode cX12_numberToken 19 = .ok (.if_icmp .ne 7, 3) := by decide +kernel
theorem dX12_numberToken_22 : decode cX12_numberToken 22 = .ok (.iconst 1, 1) := by decide +kernel
theorem dX12_numberToken_23 : decode cX12_numberToken 23 = .ok (.goto 4, 3) := by decide +kernel
theorem dX12_numberToken_26 : decode cX12_numberToken 26 = .ok (.iconst 0, 1) := by decide +kernel
theorem dX12_numberToken_27 : decode cX12_numberToken 27 = .ok (.istore_n 2, 1) := by decide +kernel
theorem dX12_numberToken_28 : decode cX12_numberToken 28 = .ok (.iload_n 2, 1) := by decide +kernel
theorem dX12_numberToken_29 : decode cX12_numberToken 29 = .ok (.ifCond .eq 9, 3) := by decide +kernel
theorem dX12_numberToken_32 : decode cX12_numberToken 32 = .ok (.iload_n 1, 1) := by decide +kernel
theorem dX12_numberToken_33 : decode cX12_numberToken 33 = .ok (.iconst 2, 1) := by decide +kernel
theorem dX12_numberToken_34 : decode cX12_numberToken 34 = .ok (.iadd, 1) := by decide +kernel
theorem dX12_numberToken_35 : decode cX12_numberToken 35 = .ok (.goto 4, 3) := by decide +kernel
theorem dX12_numberToken_38 : decode cX12_numberToken 38 = .ok (.iload_n 1, 1) := by decide +kernel
theorem dX12_numberToken_39 : decode cX12_numberToken 39 = .ok (.istore_n 3, 1) := by decide +kernel
theorem dX12_numberToken_40 : decode cX12_numberToken 40 = .ok (.iload_n 3, 1) := by decide +kernel
theorem dX12_numberToken_41 : decode cX12_numberToken 41 = .ok (.istore 4, 2) := by decide +kernel
theorem dX12_numberToken_43 : decode cX12_numberToken 43 = .ok (.lconst 0, 1) := by decide +kernel
theorem dX12_numberToken_44 : decode cX12_numberToken 44 = .ok (.lstore 5, 2) := by decide +kernel
theorem dX12_numberToken_46 : decode cX12_numberToken 46 = .ok (.iload_n 2, 1) := by decide +kernel
theorem dX12_numberToken_47 : decode cX12_numberToken 47 = .ok (.ifCond .eq 19, 3) := by decide +kernel
theorem dX12_numberToken_50 : decode cX12_numberToken 50 = .ok (.aload_n 0, 1) := by decide +kernel
theorem dX12_numberToken_51 : decode cX12_numberToken 51 = .ok (.iload_n 3, 1) := by decide +kernel
theorem dX12_numberToken_52 : decode cX12_numberToken 52 = .ok (.invokevirtual 177, 3) := by decide +kernel
theorem dX12_numberToken_55 : decode cX12_numberToken 55 = .ok (.invokestatic 221, 3) := by decide +kernel
theorem dX12_numberToken_58 : decode cX12_numberToken 58 = .ok (.bipush 16, 2) := by decide +kernel
theorem dX12_numberToken_60 : decode cX12_numberToken 60 = .ok (.if_icmp .ge 65, 3) := by decide +kernel
theorem dX12_numberToken_63 : decode cX12_numberToken 63 = .ok (.goto 14, 3) := by decide +kernel
theorem dX12_numberToken_66 : decode cX12_numberToken 66 = .ok (.aload_n 0, 1) := by decide +kernel
theorem dX12_numberToken_67 : decode cX12_numberToken 67 = .ok (.iload_n 3, 1) := by decide +kernel
theorem dX12_numberToken_68 : decode cX12_numberToken 68 = .ok (.invokevirtual 177, 3) := by decide +kernel
theorem dX12_numberToken_71 : decode cX12_numberToken 71 = .ok (.invokestatic 164, 3) := by decide +kernel
theorem dX12_numberToken_74 : decode cX12_numberToken 74 = .ok (.ifCond .eq 51, 3) := by decide +kernel
theorem dX12_numberToken_77 : decode cX12_numberToken 77 = .ok (.iload_n 3, 1) := by decide +kernel
theorem dX12_numberToken_78 : decode cX12_numberToken 78 = .ok (.iload 4, 2) := by decide +kernel
theorem dX12_numberToken_80 : decode cX12_numberToken 80 = .ok (.isub, 1) := by decide +kernel
theorem dX12_numberToken_81 : decode cX12_numberToken 81 = .ok (.bipush 10, 2) := by decide +kernel
theorem dX12_numberToken_83 : decode cX12_numberToken 83 = .ok (.if_icmp .ge 32, 3) := by decide +kernel
theorem dX12_numberToken_86 : decode cX12_numberToken 86 = .ok (.lload 5, 2) := by decide +kernel
theorem dX12_numberToken_88 : decode cX12_numberToken 88 = .ok (.iload_n 2, 1) := by decide +kernel
theorem dX12_numberToken_89 : decode cX12_numberToken 89 = .ok (.ifCond .eq 9, 3) := by decide +kernel
theorem dX12_numberToken_92 : decode cX12_numberToken 92 = .ok (.ldc2_w 224, 3) := by decide +kernel
theorem dX12_numberToken_95 : decode cX12_numberToken 95 = .ok (.goto 6, 3) := by decide +kernel
theorem dX12_numberToken_98 : decode cX12_numberToken 98 = .ok (.ldc2_w 226, 3) := by decide +kernel
theorem dX12_numberToken_101 : decode cX12_numberToken 101 = .ok (.lmul, 1) := by decide +kernel
theorem dX12_numberToken_102 : decode cX12_numberToken 102 = .ok (.aload_n 0, 1) := by decide +kernel
theorem dX12_numberToken_103 : decode cX12_numberToken 103 = .ok (.iload_n 3, 1) := by decide +kernel
theorem dX12_numberToken_104 : decode cX12_numberToken 104 = .ok (.invokevirtual 177, 3) := by decide +kernel
theorem dX12_numberToken_107 : decode cX12_numberToken 107 = .ok (.invokestatic 221, 3) := by decide +kernel
theorem dX12_numberToken_110 : decode cX12_numberToken 110 = .ok (.i2l, 1) := by decide +kernel
theorem dX12_numberToken_111 : decode cX12_numberToken 111 = .ok (.ladd, 1) := by decide +kernel
theorem dX12_numberToken_112 : decode cX12_numberToken 112 = .ok (.goto 5, 3) := by decide +kernel
theorem dX12_numberToken_115 : decode cX12_numberToken 115 = .ok (.lload 5, 2) := by decide +kernel
theorem dX12_numberToken_117 : decode cX12_numberToken 117 = .ok (.lstore 5, 2) := by decide +kernel
theorem dX12_numberToken_119 : decode cX12_numberToken 119 = .ok (.iinc 3 1, 3) := by decide +kernel
theorem dX12_numberToken_122 : decode cX12_numberToken 122 = .ok (.goto (-76), 3) := by decide +kernel
theorem dX12_numberToken_125 : decode cX12_numberToken 125 = .ok (.iload_n 3, 1) := by decide +kernel
theorem dX12_numberToken_126 : decode cX12_numberToken 126 = .ok (.iload 4, 2) := by decide +kernel
theorem dX12_numberToken_128 : decode cX12_numberToken 128 = .ok (.isub, 1) := by decide +kernel
theorem dX12_numberToken_129 : decode cX12_numberToken 129 = .ok (.istore 7, 2) := by decide +kernel
theorem dX12_numberToken_131 : decode cX12_numberToken 131 = .ok (.iload 7, 2) := by decide +kernel
theorem dX12_numberToken_133 : decode cX12_numberToken 133 = .ok (.iconst 1, 1) := by decide +kernel
theorem dX12_numberToken_134 : decode cX12_numberToken 134 = .ok (.if_icmp .lt 39, 3) := by decide +kernel
theorem dX12_numberToken_137 : decode cX12_numberToken 137 = .ok (.iload 7, 2) := by decide +kernel
theorem dX12_numberToken_139 : decode cX12_numberToken 139 = .ok (.iload_n 2, 1) := by decide +kernel
theorem dX12_numberToken_140 : decode cX12_numberToken 140 = .ok (.ifCond .eq 8, 3) := by decide +kernel
theorem dX12_numberToken_143 : decode cX12_numberToken 143 = .ok (.bipush 8, 2) := by decide +kernel
theorem dX12_numberToken_145 : decode cX12_numberToken 145 = .ok (.goto 5, 3) := by decide +kernel
theorem dX12_numberToken_148 : decode cX12_numberToken 148 = .ok (.bipush 10, 2) := by decide +kernel
theorem dX12_numberToken_150 : decode cX12_numberToken 150 = .ok (.if_icmp .gt 23, 3) := by decide +kernel
theorem dX12_numberToken_153 : decode cX12_numberToken 153 = .ok (.lload 5, 2) := by decide +kernel
theorem dX12_numberToken_155 : decode cX12_numberToken 155 = .ok (.ldc2_w 228, 3) := by decide +kernel
theorem dX12_numberToken_158 : decode cX12_numberToken 158 = .ok (.lcmp, 1) := by decide +kernel
theorem dX12_numberToken_159 : decode cX12_numberToken 159 = .ok (.ifCond .gt 14, 3) := by decide +kernel
theorem dX12_numberToken_162 : decode cX12_numberToken 162 = .ok (.aload_n 0, 1) := by decide +kernel
theorem dX12_numberToken_163 : decode cX12_numberToken 163 = .ok (.iload_n 3, 1) := by decide +kernel
theorem dX12_numberToken_164 : decode cX12_numberToken 164 = .ok (.invokevirtual 177, 3) := by decide +kernel
theorem dX12_numberToken_167 : decode cX12_numberToken 167 = .ok (.invokestatic 212, 3) := by decide +kernel
theorem dX12_numberToken_170 : decode cX12_numberToken 170 = .ok (.ifCond .eq 5, 3) := by decide +kernel
theorem dX12_numberToken_173 : decode cX12_numberToken 173 = .ok (.iconst (-1), 1) := by decide +kernel
theorem dX12_numberToken_174 : decode cX12_numberToken 174 = .ok (.ireturn, 1) := by decide +kernel
theorem dX12_numberToken_175 : decode cX12_numberToken 175 = .ok (.aload_n 0, 1) := by decide +kernel
theorem dX12_numberToken_176 : decode cX12_numberToken 176 = .ok (.iconst 3, 1) := by decide +kernel
theorem dX12_numberToken_177 : decode cX12_numberToken 177 = .ok (.lload 5, 2) := by decide +kernel
theorem dX12_numberToken_179 : decode cX12_numberToken 179 = .ok (.l2i, 1) := by decide +kernel
theorem dX12_numberToken_180 : decode cX12_numberToken 180 = .ok (.iload_n 1, 1) := by decide +kernel
theorem dX12_numberToken_181 : decode cX12_numberToken 181 = .ok (.invokevirtual 208, 3) := by decide +kernel
theorem dX12_numberToken_184 : decode cX12_numberToken 184 = .ok (.iload_n 3, 1) := by decide +kernel
theorem dX12_numberToken_185 : decode cX12_numberToken 185 = .ok (.ireturn, 1) := by decide +kernel
theorem dX12_fails_0 : decode cX12_fails 0 = .ok (.aload_n 0, 1) := by decide +kernel
theorem dX12_fails_1 : decode cX12_fails 1 = .ok (.getfield 230, 3) := by decide +kernel
theorem dX12_fails_4 : decode cX12_fails 4 = .ok (.ifCond .le 5, 3) := by decide +kernel
theorem dX12_fails_7 : decode cX12_fails 7 = .ok (.iconst 0, 1) := by decide +kernel
theorem dX12_fails_8 : decode cX12_fails 8 = .ok (.ireturn, 1) := by decide +kernel
theorem dX12_fails_9 : decode cX12_fails 9 = .ok (.aload_n 0, 1) := by decide +kernel
theorem dX12_fails_10 : decode cX12_fails 10 = .ok (.getfield 233, 3) := by decide +kernel
theorem dX12_fails_13 : decode cX12_fails 13 = .ok (.aload_n 0, 1) := by decide +kernel
theorem dX12_fails_14 : decode cX12_fails 14 = .ok (.getfield 187, 3) := by decide +kernel
theorem dX12_fails_17 : decode cX12_fails 17 = .ok (.if_icmp .ne 15, 3) := by decide +kernel
theorem dX12_fails_20 : decode cX12_fails 20 = .ok (.aload_n 0, 1) := by decide +kernel
theorem dX12_fails_21 : decode cX12_fails 21 = .ok (.getfield 184, 3) := by decide +kernel
theorem dX12_fails_24 : decode cX12_fails 24 = .ok (.iconst (-1), 1) := by decide +kernel
theorem dX12_fails_25 : decode cX12_fails 25 = .ok (.if_icmp .eq 7, 3) := by decide +kernel
theorem dX12_fails_28 : decode cX12_fails 28 = .ok (.iconst 1, 1) := by decide +kernel
theorem dX12_fails_29 : decode cX12_fails 29 = .ok (.goto 4, 3) := by decide +kernel
theorem dX12_fails_32 : decode cX12_fails 32 = .ok (.iconst 0, 1) := by decide +kernel
theorem dX12_fails_33 : decode cX12_fails 33 = .ok (.istore_n 2, 1) := by decide +kernel
theorem dX12_fails_34 : decode cX12_fails 34 = .ok (.aload_n 0, 1) := by decide +kernel
theorem dX12_fails_35 : decode cX12_fails 35 = .ok (.iload_n 2, 1) := by decide +kernel
theorem dX12_fails_36 : decode cX12_fails 36 = .ok (.ifCond .eq 7, 3) := by decide +kernel
theorem dX12_fails_39 : decode cX12_fails 39 = .ok (.iconst 1, 1) := by decide +kernel
theorem dX12_fails_40 : decode cX12_fails 40 = .ok (.goto 4, 3) := by decide +kernel
theorem dX12_fails_43 : decode cX12_fails 43 = .ok (.iload_n 1, 1) := by decide +kernel
theorem dX12_fails_44 : decode cX12_fails 44 = .ok (.putfield 230, 3) := by decide +kernel
theorem dX12_fails_47 : decode cX12_fails 47 = .ok (.aload_n 0, 1) := by decide +kernel
theorem dX12_fails_48 : decode cX12_fails 48 = .ok (.iload_n 2, 1) := by decide +kernel
theorem dX12_fails_49 : decode cX12_fails 49 = .ok (.ifCond .eq 10, 3) := by decide +kernel
theorem dX12_fails_52 : decode cX12_fails 52 = .ok (.aload_n 0, 1) := by decide +kernel
theorem dX12_fails_53 : decode cX12_fails 53 = .ok (.getfield 184, 3) := by decide +kernel
theorem dX12_fails_56 : decode cX12_fails 56 = .ok (.goto 12, 3) := by decide +kernel
theorem dX12_fails_59 : decode cX12_fails 59 = .ok (.aload_n 0, 1) := by decide +kernel
theorem dX12_fails_60 : decode cX12_fails 60 = .ok (.getfield 22, 3) := by decide +kernel
theorem dX12_fails_63 : decode cX12_fails 63 = .ok (.aload_n 0, 1) := by decide +kernel
theorem dX12_fails_64 : decode cX12_fails 64 = .ok (.getfield 233, 3) := by decide +kernel
theorem dX12_fails_67 : decode cX12_fails 67 = .ok (.iaload, 1) := by decide +kernel
theorem dX12_fails_68 : decode cX12_fails 68 = .ok (.putfield 236, 3) := by decide +kernel
theorem dX12_fails_71 : decode cX12_fails 71 = .ok (.iconst 0, 1) := by decide +kernel
theorem dX12_fails_72 : decode cX12_fails 72 = .ok (.ireturn, 1) := by decide +kernel
theorem dX12_rank_0 : decode cX12_rank 0 = .ok (.iload_n 0, 1) := by decide +kernel
theorem dX12_rank_1 : decode cX12_rank 1 = .ok (.bipush 7, 2) := by decide +kernel
theorem dX12_rank_3 : decode cX12_rank 3 = .ok (.if_icmp .ne 8, 3) := by decide +kernel
theorem dX12_rank_6 : decode cX12_rank 6 = .ok (.bipush 11, 2) := by decide +kernel
theorem dX12_rank_8 : decode cX12_rank 8 = .ok (.goto 6, 3) := by decide +kernel
theorem dX12_rank_11 : decode cX12_rank 11 = .ok (.iconst 2, 1) := by decide +kernel
theorem dX12_rank_12 : decode cX12_rank 12 = .ok (.iload_n 0, 1) := by decide +kernel
theorem dX12_rank_13 : decode cX12_rank 13 = .ok (.imul, 1) := by decide +kernel
theorem dX12_rank_14 : decode cX12_rank 14 = .ok (.ireturn, 1) := by decide +kernel
theorem dX12_note_0 : decode cX12_note 0 = .ok (.aload_n 0, 1) := by decide +kernel
theorem dX12_note_1 : decode cX12_note 1 = .ok (.iload_n 1, 1) := by decide +kernel
theorem dX12_note_2 : decode cX12_note 2 = .ok (.iload_n 2, 1) := by decide +kernel
theorem dX12_note_3 : decode cX12_note 3 = .ok (.iload_n 1, 1) := by decide +kernel
theorem dX12_note_4 : decode cX12_note 4 = .ok (.invokestatic 239, 3) := by decide +kernel
theorem dX12_note_7 : decode cX12_note 7 = .ok (.invokevirtual 242, 3) := by decide +kernel
theorem dX12_note_10 : decode cX12_note 10 = .ok (.return_, 1) := by decide +kernel
theorem dX12_noteAs_0 : decode cX12_noteAs 0 = .ok (.aload_n 0, 1) := by decide +kernel
theorem dX12_noteAs_1 : decode cX12_noteAs 1 = .ok (.getfield 245, 3) := by decide +kernel
theorem dX12_noteAs_4 : decode cX12_noteAs 4 = .ok (.ifCond .eq 34, 3) := by decide +kernel
theorem dX12_noteAs_7 : decode cX12_noteAs 7 = .ok (.aload_n 0, 1) := by decide +kernel
theorem dX12_noteAs_8 : decode cX12_noteAs 8 = .ok (.getfield 248, 3) := by decide +kernel
theorem dX12_noteAs_11 : decode cX12_noteAs 11 = .ok (.ifCond .le 28, 3) := by decide +kernel
theorem dX12_noteAs_14 : decode cX12_noteAs 14 = .ok (.aload_n 0, 1) := by decide +kernel
theorem dX12_noteAs_15 : decode cX12_noteAs 15 = .ok (.getfield 251, 3) := by decide +kernel
theorem dX12_noteAs_18 : decode cX12_noteAs 18 = .ok (.iload_n 2, 1) := by decide +kernel
theorem dX12_noteAs_19 : decode cX12_noteAs 19 = .ok (.if_icmp .lt 19, 3) := by decide +kernel
theorem dX12_noteAs_22 : decode cX12_noteAs 22 = .ok (.aload_n 0, 1) := by decide +kernel
theorem dX12_noteAs_23 : decode cX12_noteAs 23 = .ok (.getfield 251, 3) := by decide +kernel
theorem dX12_noteAs_26 : decode cX12_noteAs 26 = .ok (.iload_n 2, 1) := by decide +kernel
theorem dX12_noteAs_27 : decode cX12_noteAs 27 = .ok (.if_icmp .ne 12, 3) := by decide +kernel
theorem dX12_noteAs_30 : decode cX12_noteAs 30 = .ok (.aload_n 0, 1) := by decide +kernel
theorem dX12_noteAs_31 : decode cX12_noteAs 31 = .ok (.getfield 254, 3) := by decide +kernel
theorem dX12_noteAs_34 : decode cX12_noteAs 34 = .ok (.iload_n 3, 1) := by decide +kernel
theorem dX12_noteAs_35 : decode cX12_noteAs 35 = .ok (.if_icmp .gt 4, 3) := by decide +kernel
theorem dX12_noteAs_38 : decode cX12_noteAs 38 = .ok (.return_, 1) := by decide +kernel
theorem dX12_noteAs_39 : decode cX12_noteAs 39 = .ok (.aload_n 0, 1) := by decide +kernel
theorem dX12_noteAs_40 : decode cX12_noteAs 40 = .ok (.iload_n 1, 1) := by decide +kernel
theorem dX12_noteAs_41 : decode cX12_noteAs 41 = .ok (.putfield 248, 3) := by decide +kernel
theorem dX12_noteAs_44 : decode cX12_noteAs 44 = .ok (.aload_n 0, 1) := by decide +kernel
theorem dX12_noteAs_45 : decode cX12_noteAs 45 = .ok (.iload_n 2, 1) := by decide +kernel
theorem dX12_noteAs_46 : decode cX12_noteAs 46 = .ok (.putfield 251, 3) := by decide +kernel
theorem dX12_noteAs_49 : decode cX12_noteAs 49 = .ok (.aload_n 0, 1) := by decide +kernel
theorem dX12_noteAs_50 : decode cX12_noteAs 50 = .ok (.iload_n 3, 1) := by decide +kernel
theorem dX12_noteAs_51 : decode cX12_noteAs 51 = .ok (.putfield 254, 3) := by decide +kernel
theorem dX12_noteAs_54 : decode cX12_noteAs 54 = .ok (.return_, 1) := by decide +kernel
theorem dX12_isSign_0 : decode cX12_isSign 0 = .ok (.aload_n 0, 1) := by decide +kernel
theorem dX12_isSign_1 : decode cX12_isSign 1 = .ok (.getfield 16, 3) := by decide +kernel
theorem dX12_isSign_4 : decode cX12_isSign 4 = .ok (.aload_n 0, 1) := by decide +kernel
theorem dX12_isSign_5 : decode cX12_isSign 5 = .ok (.getfield 233, 3) := by decide +kernel
theorem dX12_isSign_8 : decode cX12_isSign 8 = .ok (.iaload, 1) := by decide +kernel
theorem dX12_isSign_9 : decode cX12_isSign 9 = .ok (.iconst 4, 1) := by decide +kernel
theorem dX12_isSign_10 : decode cX12_isSign 10 = .ok (.if_icmp .ne 20, 3) := by decide +kernel
theorem dX12_isSign_13 : decode cX12_isSign 13 = .ok (.aload_n 0, 1) := by decide +kernel
theorem dX12_isSign_14 : decode cX12_isSign 14 = .ok (.getfield 19, 3) := by decide +kernel
theorem dX12_isSign_17 : decode cX12_isSign 17 = .ok (.aload_n 0, 1) := by decide +kernel
theorem dX12_isSign_18 : decode cX12_isSign 18 = .ok (.getfield 233, 3) := by decide +kernel
theorem dX12_isSign_21 : decode cX12_isSign 21 = .ok (.iaload, 1) := by decide +kernel
theorem dX12_isSign_22 : decode cX12_isSign 22 = .ok (.iload_n 1, 1) := by decide +kernel
theorem dX12_isSign_23 : decode cX12_isSign 23 = .ok (.if_icmp .ne 7, 3) := by decide +kernel
theorem dX12_isSign_26 : decode cX12_isSign 26 = .ok (.iconst 1, 1) := by decide +kernel
theorem dX12_isSign_27 : decode cX12_isSign 27 = .ok (.goto 4, 3) := by decide +kernel
theorem dX12_isSign_30 : decode cX12_isSign 30 = .ok (.iconst 0, 1) := by decide +kernel
theorem dX12_isSign_31 : decode cX12_isSign 31 = .ok (.ireturn, 1) := by decide +kernel
theorem dX12_isWord_0 : decode cX12_isWord 0 = .ok (.aload_n 0, 1) := by decide +kernel
theorem dX12_isWord_1 : decode cX12_isWord 1 = .ok (.getfield 16, 3) := by decide +kernel
theorem dX12_isWord_4 : decode cX12_isWord 4 = .ok (.aload_n 0, 1) := by decide +kernel
theorem dX12_isWord_5 : decode cX12_isWord 5 = .ok (.getfield 233, 3) := by decide +kernel
theorem dX12_isWord_8 : decode cX12_isWord 8 = .ok (.iaload, 1) := by decide +kernel
theorem dX12_isWord_9 : decode cX12_isWord 9 = .ok (.iconst 2, 1) := by decide +kernel
theorem dX12_isWord_10 : decode cX12_isWord 10 = .ok (.if_icmp .ne 20, 3) := by decide +kernel
theorem dX12_isWord_13 : decode cX12_isWord 13 = .ok (.aload_n 0, 1) := by decide +kernel
theorem dX12_isWord_14 : decode cX12_isWord 14 = .ok (.getfield 19, 3) := by decide +kernel
theorem dX12_isWord_17 : decode cX12_isWord 17 = .ok (.aload_n 0, 1) := by decide +kernel
theorem dX12_isWord_18 : decode cX12_isWord 18 = .ok (.getfield 233, 3) := by decide +kernel
theorem dX12_isWord_21 : decode cX12_isWord 21 = .ok (.iaload, 1) := by decide +kernel
theorem dX12_isWord_22 : decode cX12_isWord 22 = .ok (.iload_n 1, 1) := by decide +kernel
theorem dX12_isWord_23 : decode cX12_isWord 23 = .ok (.if_icmp .ne 7, 3) := by decide +kernel
theorem dX12_isWord_26 : decode cX12_isWord 26 = .ok (.iconst 1, 1) := by decide +kernel
theorem dX12_isWord_27 : decode cX12_isWord 27 = .ok (.goto 4, 3) := by decide +kernel
theorem dX12_isWord_30 : decode cX12_isWord 30 = .ok (.iconst 0, 1) := by decide +kernel
theorem dX12_isWord_31 : decode cX12_isWord 31 = .ok (.ireturn, 1) := by decide +kernel
theorem dX12_sign_0 : decode cX12_sign 0 = .ok (.aload_n 0, 1) := by decide +kernel
theorem dX12_sign_1 : decode cX12_sign 1 = .ok (.getfield 230, 3) := by decide +kernel
theorem dX12_sign_4 : decode cX12_sign 4 = .ok (.ifCond .gt 11, 3) := by decide +kernel
theorem dX12_sign_7 : decode cX12_sign 7 = .ok (.aload_n 0, 1) := by decide +kernel
theorem dX12_sign_8 : decode cX12_sign 8 = .ok (.iload_n 1, 1) := by decide +kernel
theorem dX12_sign_9 : decode cX12_sign 9 = .ok (.invokevirtual 257, 3) := by decide +kernel
theorem dX12_sign_12 : decode cX12_sign 12 = .ok (.ifCond .ne 9, 3) := by decide +kernel
theorem dX12_sign_15 : decode cX12_sign 15 = .ok (.aload_n 0, 1) := by decide +kernel
theorem dX12_sign_16 : decode cX12_sign 16 = .ok (.iconst 2, 1) := by decide +kernel
theorem dX12_sign_17 : decode cX12_sign 17 = .ok (.invokevirtual 260, 3) := by decide +kernel
theorem dX12_sign_20 : decode cX12_sign 20 = .ok (.ireturn, 1) := by decide +kernel
theorem dX12_sign_21 : decode cX12_sign 21 = .ok (.aload_n 0, 1) := by decide +kernel
theorem dX12_sign_22 : decode cX12_sign 22 = .ok (.dup, 1) := by decide +kernel
theorem dX12_sign_23 : decode cX12_sign 23 = .ok (.getfield 233, 3) := by decide +kernel
theorem dX12_sign_26 : decode cX12_sign 26 = .ok (.iconst 1, 1) := by decide +kernel
theorem dX12_sign_27 : decode cX12_sign 27 = .ok (.iadd, 1) := by decide +kernel
theorem dX12_sign_28 : decode cX12_sign 28 = .ok (.putfield 233, 3) := by decide +kernel
theorem dX12_sign_31 : decode cX12_sign 31 = .ok (.iconst 1, 1) := by decide +kernel
theorem dX12_sign_32 : decode cX12_sign 32 = .ok (.ireturn, 1) := by decide +kernel
theorem dX12_word_0 : decode cX12_word 0 = .ok (.aload_n 0, 1) := by decide +kernel
theorem dX12_word_1 : decode cX12_word 1 = .ok (.getfield 230, 3) := by decide +kernel
theorem dX12_word_4 : decode cX12_word 4 = .ok (.ifCond .gt 11, 3) := by decide +kernel
theorem dX12_word_7 : decode cX12_word 7 = .ok (.aload_n 0, 1) := by decide +kernel
theorem dX12_word_8 : decode cX12_word 8 = .ok (.iload_n 1, 1) := by decide +kernel
theorem dX12_word_9 : decode cX12_word 9 = .ok (.invokevirtual 263, 3) := by decide +kernel
theorem dX12_word_12 : decode cX12_word 12 = .ok (.ifCond .ne 21, 3) := by decide +kernel
theorem dX12_word_15 : decode cX12_word 15 = .ok (.iload_n 2, 1) := by decide +kernel
theorem dX12_word_16 : decode cX12_word 16 = .ok (.ifCond .eq 15, 3) := by decide +kernel
theorem dX12_word_19 : decode cX12_word 19 = .ok (.aload_n 0, 1) := by decide +kernel
theorem dX12_word_20 : decode cX12_word 20 = .ok (.iconst 2, 1) := by decide +kernel
theorem dX12_word_21 : decode cX12_word 21 = .ok (.invokevirtual 260, 3) := by decide +kernel
theorem dX12_word_24 : decode cX12_word 24 = .ok (.ifCond .eq 7, 3) := by decide +kernel
theorem dX12_word_27 : decode cX12_word 27 = .ok (.iconst 1, 1) := by decide +kernel
theorem dX12_word_28 : decode cX12_word 28 = .ok (.goto 4, 3) := by decide +kernel
theorem dX12_word_31 : decode cX12_word 31 = .ok (.iconst 0, 1) := by decide +kernel
theorem dX12_word_32 : decode cX12_word 32 = .ok (.ireturn, 1) := by decide +kernel
theorem dX12_word_33 : decode cX12_word 33 = .ok (.aload_n 0, 1) := by decide +kernel
theorem dX12_word_34 : decode cX12_word 34 = .ok (.dup, 1) := by decide +kernel
theorem dX12_word_35 : decode cX12_word 35 = .ok (.getfield 233, 3) := by decide +kernel
theorem dX12_word_38 : decode cX12_word 38 = .ok (.iconst 1, 1) := by decide +kernel
theorem dX12_word_39 : decode cX12_word 39 = .ok (.iadd, 1) := by decide +kernel
theorem dX12_word_40 : decode cX12_word 40 = .ok (.putfield 233, 3) := by decide +kernel
theorem dX12_word_43 : decode cX12_word 43 = .ok (.iconst 1, 1) := by decide +kernel
theorem dX12_word_44 : decode cX12_word 44 = .ok (.ireturn, 1) := by decide +kernel
theorem dX12_name_0 : decode cX12_name 0 = .ok (.aload_n 0, 1) := by decide +kernel
theorem dX12_name_1 : decode cX12_name 1 = .ok (.getfield 230, 3) := by decide +kernel
theorem dX12_name_4 : decode cX12_name 4 = .ok (.ifCond .gt 16, 3) := by decide +kernel
theorem dX12_name_7 : decode cX12_name 7 = .ok (.aload_n 0, 1) := by decide +kernel
theorem dX12_name_8 : decode cX12_name 8 = .ok (.getfield 16, 3) := by decide +kernel
theorem dX12_name_11 : decode cX12_name 11 = .ok (.aload_n 0, 1) := by decide +kernel
theorem dX12_name_12 : decode cX12_name 12 = .ok (.getfield 233, 3) := by decide +kernel
theorem dX12_name_15 : decode cX12_name 15 = .ok (.iaload, 1) := by decide +kernel
theorem dX12_name_16 : decode cX12_name 16 = .ok (.iconst 1, 1) := by decide +kernel
theorem dX12_name_17 : decode cX12_name 17 = .ok (.if_icmp .eq 11, 3) := by decide +kernel
theorem dX12_name_20 : decode cX12_name 20 = .ok (.aload_n 0, 1) := by decide +kernel
theorem dX12_name_21 : decode cX12_name 21 = .ok (.iconst 2, 1) := by decide +kernel
theorem dX12_name_22 : decode cX12_name 22 = .ok (.invokevirtual 260, 3) := by decide +kernel
theorem dX12_name_25 : decode cX12_name 25 = .ok (.pop, 1) := by decide +kernel
theorem dX12_name_26 : decode cX12_name 26 = .ok (.iconst 0, 1) := by decide +kernel
theorem dX12_name_27 : decode cX12_name 27 = .ok (.ireturn, 1) := by decide +kernel
theorem dX12_name_28 : decode cX12_name 28 = .ok (.aload_n 0, 1) := by decide +kernel
theorem dX12_name_29 : decode cX12_name 29 = .ok (.dup, 1) := by decide +kernel
theorem dX12_name_30 : decode cX12_name 30 = .ok (.getfield 233, 3) := by decide +kernel
theorem dX12_name_33 : decode cX12_name 33 = .ok (.iconst 1, 1) := by decide +kernel
theorem dX12_name_34 : decode cX12_name 34 = .ok (.iadd, 1) := by decide +kernel
theorem dX12_name_35 : decode cX12_name 35 = .ok (.putfield 233, 3) := by decide +kernel
theorem dX12_name_38 : decode cX12_name 38 = .ok (.aload_n 0, 1) := by decide +kernel
theorem dX12_name_39 : decode cX12_name 39 = .ok (.getfield 233, 3) := by decide +kernel
theorem dX12_name_42 : decode cX12_name 42 = .ok (.iconst 1, 1) := by decide +kernel
theorem dX12_name_43 : decode cX12_name 43 = .ok (.isub, 1) := by decide +kernel
theorem dX12_name_44 : decode cX12_name 44 = .ok (.ireturn, 1) := by decide +kernel
theorem dX12_opens_0 : decode cX12_opens 0 = .ok (.aload_n 0, 1) := by decide +kernel
theorem dX12_opens_1 : decode cX12_opens 1 = .ok (.getfield 266, 3) := by decide +kernel
theorem dX12_opens_4 : decode cX12_opens 4 = .ok (.bipush 40, 2) := by decide +kernel
theorem dX12_opens_6 : decode cX12_opens 6 = .ok (.if_icmp .ne 9, 3) := by decide +kernel
theorem dX12_opens_9 : decode cX12_opens 9 = .ok (.aload_n 0, 1) := by decide +kernel
theorem dX12_opens_10 : decode cX12_opens 10 = .ok (.iconst 3, 1) := by decide +kernel
theorem dX12_opens_11 : decode cX12_opens 11 = .ok (.invokevirtual 260, 3) := by decide +kernel
theorem dX12_opens_14 : decode cX12_opens 14 = .ok (.ireturn, 1) := by decide +kernel
theorem dX12_opens_15 : decode cX12_opens 15 = .ok (.aload_n 0, 1) := by decide +kernel
theorem dX12_opens_16 : decode cX12_opens 16 = .ok (.dup, 1) := by decide +kernel
theorem dX12_opens_17 : decode cX12_opens 17 = .ok (.getfield 266, 3) := by decide +kernel
theorem dX12_opens_20 : decode cX12_opens 20 = .ok (.iconst 1, 1) := by decide +kernel
theorem dX12_opens_21 : decode cX12_opens 21 = .ok (.iadd, 1) := by decide +kernel
theorem dX12_opens_22 : decode cX12_opens 22 = .ok (.putfield 266, 3) := by decide +kernel
theorem dX12_opens_25 : decode cX12_opens 25 = .ok (.aload_n 0, 1) := by decide +kernel
theorem dX12_opens_26 : decode cX12_opens 26 = .ok (.dup, 1) := by decide +kernel
theorem dX12_opens_27 : decode cX12_opens 27 = .ok (.getfield 233, 3) := by decide +kernel
theorem dX12_opens_30 : decode cX12_opens 30 = .ok (.iconst 1, 1) := by decide +kernel
theorem dX12_opens_31 : decode cX12_opens 31 = .ok (.iadd, 1) := by decide +kernel
theorem dX12_opens_32 : decode cX12_opens 32 = .ok (.putfield 233, 3) := by decide +kernel
theorem dX12_opens_35 : decode cX12_opens 35 = .ok (.iconst 1, 1) := by decide +kernel
theorem dX12_opens_36 : decode cX12_opens 36 = .ok (.ireturn, 1) := by decide +kernel
theorem dX12_openSign_0 : decode cX12_openSign 0 = .ok (.aload_n 0, 1) := by decide +kernel
theorem dX12_openSign_1 : decode cX12_openSign 1 = .ok (.getfield 230, 3) := by decide +kernel
theorem dX12_openSign_4 : decode cX12_openSign 4 = .ok (.ifCond .gt 11, 3) := by decide +kernel
theorem dX12_openSign_7 : decode cX12_openSign 7 = .ok (.aload_n 0, 1) := by decide +kernel
theorem dX12_openSign_8 : decode cX12_openSign 8 = .ok (.iload_n 1, 1) := by decide +kernel
theorem dX12_openSign_9 : decode cX12_openSign 9 = .ok (.invokevirtual 257, 3) := by decide +kernel
theorem dX12_openSign_12 : decode cX12_openSign 12 = .ok (.ifCond .ne 11, 3) := by decide +kernel
theorem dX12_openSign_15 : decode cX12_openSign 15 = .ok (.aload_n 0, 1) := by decide +kernel
theorem dX12_openSign_16 : decode cX12_openSign 16 = .ok (.iconst 2, 1) := by decide +kernel
theorem dX12_openSign_17 : decode cX12_openSign 17 = .ok (.invokevirtual 260, 3) := by decide +kernel
theorem dX12_openSign_20 : decode cX12_openSign 20 = .ok (.goto 7, 3) := by decide +kernel
theorem dX12_openSign_23 : decode cX12_openSign 23 = .ok (.aload_n 0, 1) := by decide +kernel
theorem dX12_openSign_24 : decode cX12_openSign 24 = .ok (.invokevirtual 269, 3) := by decide +kernel
theorem dX12_openSign_27 : decode cX12_openSign 27 = .ok (.ireturn, 1) := by decide +kernel
theorem dX12_closeSign_0 : decode cX12_closeSign 0 = .ok (.aload_n 0, 1) := by decide +kernel
theorem dX12_closeSign_1 : decode cX12_closeSign 1 = .ok (.iload_n 1, 1) := by decide +kernel
theorem dX12_closeSign_2 : decode cX12_closeSign 2 = .ok (.invokevirtual 273, 3) := by decide +kernel
theorem dX12_closeSign_5 : decode cX12_closeSign 5 = .ok (.ifCond .ne 5, 3) := by decide +kernel
theorem dX12_closeSign_8 : decode cX12_closeSign 8 = .ok (.iconst 0, 1) := by decide +kernel
theorem dX12_closeSign_9 : decode cX12_closeSign 9 = .ok (.ireturn, 1) := by decide +kernel
theorem dX12_closeSign_10 : decode cX12_closeSign 10 = .ok (.aload_n 0, 1) := by decide +kernel
theorem dX12_closeSign_11 : decode cX12_closeSign 11 = .ok (.dup, 1) := by decide +kernel
theorem dX12_closeSign_12 : decode cX12_closeSign 12 = .ok (.getfield 266, 3) := by decide +kernel
theorem dX12_closeSign_15 : decode cX12_closeSign 15 = .ok (.iconst 1, 1) := by decide +kernel
theorem dX12_closeSign_16 : decode cX12_closeSign 16 = .ok (.isub, 1) := by decide +kernel
theorem dX12_closeSign_17 : decode cX12_closeSign 17 = .ok (.putfield 266, 3) := by decide +kernel
theorem dX12_closeSign_20 : decode cX12_closeSign 20 = .ok (.iconst 1, 1) := by decide +kernel
theorem dX12_closeSign_21 : decode cX12_closeSign 21 = .ok (.ireturn, 1) := by decide +kernel
theorem dX12_step_0 : decode cX12_step 0 = .ok (.aload_n 0, 1) := by decide +kernel
theorem dX12_step_1 : decode cX12_step 1 = .ok (.getfield 104, 3) := by decide +kernel
theorem dX12_step_4 : decode cX12_step 4 = .ok (.aload_n 0, 1) := by decide +kernel
theorem dX12_step_5 : decode cX12_step 5 = .ok (.getfield 276, 3) := by decide +kernel
theorem dX12_step_8 : decode cX12_step 8 = .ok (.iload_n 1, 1) := by decide +kernel
theorem dX12_step_9 : decode cX12_step 9 = .ok (.iastore, 1) := by decide +kernel
theorem dX12_step_10 : decode cX12_step 10 = .ok (.aload_n 0, 1) := by decide +kernel
theorem dX12_step_11 : decode cX12_step 11 = .ok (.getfield 107, 3) := by decide +kernel
theorem dX12_step_14 : decode cX12_step 14 = .ok (.aload_n 0, 1) := by decide +kernel
theorem dX12_step_15 : decode cX12_step 15 = .ok (.getfield 276, 3) := by decide +kernel
theorem dX12_step_18 : decode cX12_step 18 = .ok (.iload_n 2, 1) := by decide +kernel
theorem dX12_step_19 : decode cX12_step 19 = .ok (.iastore, 1) := by decide +kernel
theorem dX12_step_20 : decode cX12_step 20 = .ok (.aload_n 0, 1) := by decide +kernel
theorem dX12_step_21 : decode cX12_step 21 = .ok (.getfield 110, 3) := by decide +kernel
theorem dX12_step_24 : decode cX12_step 24 = .ok (.aload_n 0, 1) := by decide +kernel
theorem dX12_step_25 : decode cX12_step 25 = .ok (.getfield 276, 3) := by decide +kernel
theorem dX12_step_28 : decode cX12_step 28 = .ok (.iload_n 3, 1) := by decide +kernel
theorem dX12_step_29 : decode cX12_step 29 = .ok (.iastore, 1) := by decide +kernel
theorem dX12_step_30 : decode cX12_step 30 = .ok (.aload_n 0, 1) := by decide +kernel
theorem dX12_step_31 : decode cX12_step 31 = .ok (.dup, 1) := by decide +kernel
theorem dX12_step_32 : decode cX12_step 32 = .ok (.getfield 276, 3) := by decide +kernel
theorem dX12_step_35 : decode cX12_step 35 = .ok (.iconst 1, 1) := by decide +kernel
theorem dX12_step_36 : decode cX12_step 36 = .ok (.iadd, 1) := by decide +kernel
theorem dX12_step_37 : decode cX12_step 37 = .ok (.putfield 276, 3) := by decide +kernel
theorem dX12_step_40 : decode cX12_step 40 = .ok (.aload_n 0, 1) := by decide +kernel
theorem dX12_step_41 : decode cX12_step 41 = .ok (.getfield 276, 3) := by decide +kernel
theorem dX12_step_44 : decode cX12_step 44 = .ok (.iconst 1, 1) := by decide +kernel
theorem dX12_step_45 : decode cX12_step 45 = .ok (.isub, 1) := by decide +kernel
theorem dX12_step_46 : decode cX12_step 46 = .ok (.ireturn, 1) := by decide +kernel
theorem dX12_texts_0 : decode cX12_texts 0 = .ok (.aload_n 0, 1) := by decide +kernel
theorem dX12_texts_1 : decode cX12_texts 1 = .ok (.iconst 0, 1) := by decide +kernel
theorem dX12_texts_2 : decode cX12_texts 2 = .ok (.putfield 233, 3) := by decide +kernel
theorem dX12_texts_5 : decode cX12_texts 5 = .ok (.aload_n 0, 1) := by decide +kernel
theorem dX12_texts_6 : decode cX12_texts 6 = .ok (.iconst 0, 1) := by decide +kernel
theorem dX12_texts_7 : decode cX12_texts 7 = .ok (.putfield 266, 3) := by decide +kernel
theorem dX12_texts_10 : decode cX12_texts 10 = .ok (.aload_n 0, 1) := by decide +kernel
theorem dX12_texts_11 : decode cX12_texts 11 = .ok (.iconst 0, 1) := by decide +kernel
theorem dX12_texts_12 : decode cX12_texts 12 = .ok (.putfield 279, 3) := by decide +kernel
theorem dX12_texts_15 : decode cX12_texts 15 = .ok (.aload_n 0, 1) := by decide +kernel
theorem dX12_texts_16 : decode cX12_texts 16 = .ok (.iconst 0, 1) := by decide +kernel
theorem dX12_texts_17 : decode cX12_texts 17 = .ok (.putfield 282, 3) := by decide +kernel
theorem dX12_texts_20 : decode cX12_texts 20 = .ok (.aload_n 0, 1) := by decide +kernel
theorem dX12_texts_21 : decode cX12_texts 21 = .ok (.iconst 0, 1) := by decide +kernel
theorem dX12_texts_22 : decode cX12_texts 22 = .ok (.putfield 276, 3) := by decide +kernel
theorem dX12_texts_25 : decode cX12_texts 25 = .ok (.aload_n 0, 1) := by decide +kernel
theorem dX12_texts_26 : decode cX12_texts 26 = .ok (.iconst 0, 1) := by decide +kernel
theorem dX12_texts_27 : decode cX12_texts 27 = .ok (.putfield 285, 3) := by decide +kernel
theorem dX12_texts_30 : decode cX12_texts 30 = .ok (.aload_n 0, 1) := by decide +kernel
theorem dX12_texts_31 : decode cX12_texts 31 = .ok (.iconst 0, 1) := by decide +kernel
theorem dX12_texts_32 : decode cX12_texts 32 = .ok (.putfield 288, 3) := by decide +kernel
theorem dX12_texts_35 : decode cX12_texts 35 = .ok (.aload_n 0, 1) := by decide +kernel
theorem dX12_texts_36 : decode cX12_texts 36 = .ok (.iconst 0, 1) := by decide +kernel
theorem dX12_texts_37 : decode cX12_texts 37 = .ok (.putfield 291, 3) := by decide +kernel
theorem dX12_texts_40 : decode cX12_texts 40 = .ok (.aload_n 0, 1) := by decide +kernel
theorem dX12_texts_41 : decode cX12_texts 41 = .ok (.iconst (-1), 1) := by decide +kernel
theorem dX12_texts_42 : decode cX12_texts 42 = .ok (.putfield 294, 3) := by decide +kernel
theorem dX12_texts_45 : decode cX12_texts 45 = .ok (.aload_n 0, 1) := by decide +kernel
theorem dX12_texts_46 : decode cX12_texts 46 = .ok (.aload_n 0, 1) := by decide +kernel
theorem dX12_texts_47 : decode cX12_texts 47 = .ok (.getfield 245, 3) := by decide +kernel
theorem dX12_texts_50 : decode cX12_texts 50 = .ok (.ifCond .ne 7, 3) := by decide +kernel
theorem dX12_texts_53 : decode cX12_texts 53 = .ok (.iconst 0, 1) := by decide +kernel
theorem dX12_texts_54 : decode cX12_texts 54 = .ok (.goto 7, 3) := by decide +kernel
theorem dX12_texts_57 : decode cX12_texts 57 = .ok (.aload_n 0, 1) := by decide +kernel
theorem dX12_texts_58 : decode cX12_texts 58 = .ok (.getfield 297, 3) := by decide +kernel
theorem dX12_texts_61 : decode cX12_texts 61 = .ok (.putfield 297, 3) := by decide +kernel
theorem dX12_texts_64 : decode cX12_texts 64 = .ok (.iconst 0, 1) := by decide +kernel
theorem dX12_texts_65 : decode cX12_texts 65 = .ok (.istore_n 1, 1) := by decide +kernel
theorem dX12_texts_66 : decode cX12_texts 66 = .ok (.aload_n 0, 1) := by decide +kernel
theorem dX12_texts_67 : decode cX12_texts 67 = .ok (.aload_n 0, 1) := by decide +kernel
theorem dX12_texts_68 : decode cX12_texts 68 = .ok (.getfield 245, 3) := by decide +kernel
theorem dX12_texts_71 : decode cX12_texts 71 = .ok (.ifCond .ne 7, 3) := by decide +kernel
theorem dX12_texts_74 : decode cX12_texts 74 = .ok (.iconst 0, 1) := by decide +kernel
theorem dX12_texts_75 : decode cX12_texts 75 = .ok (.goto 7, 3) := by decide +kernel
theorem dX12_texts_78 : decode cX12_texts 78 = .ok (.aload_n 0, 1) := by decide +kernel
theorem dX12_texts_79 : decode cX12_texts 79 = .ok (.getfield 300, 3) := by decide +kernel
theorem dX12_texts_82 : decode cX12_texts 82 = .ok (.putfield 300, 3) := by decide +kernel
theorem dX12_texts_85 : decode cX12_texts 85 = .ok (.iconst 1, 1) := by decide +kernel
theorem dX12_texts_86 : decode cX12_texts 86 = .ok (.istore_n 2, 1) := by decide +kernel
theorem dX12_texts_87 : decode cX12_texts 87 = .ok (.iload_n 2, 1) := by decide +kernel
theorem dX12_texts_88 : decode cX12_texts 88 = .ok (.ifCond .eq 39, 3) := by decide +kernel
theorem dX12_texts_91 : decode cX12_texts 91 = .ok (.aload_n 0, 1) := by decide +kernel
theorem dX12_texts_92 : decode cX12_texts 92 = .ok (.getfield 16, 3) := by decide +kernel
theorem dX12_texts_95 : decode cX12_texts 95 = .ok (.aload_n 0, 1) := by decide +kernel
theorem dX12_texts_96 : decode cX12_texts 96 = .ok (.getfield 233, 3) := by decide +kernel
theorem dX12_texts_99 : decode cX12_texts 99 = .ok (.iaload, 1) := by decide +kernel
theorem dX12_texts_100 : decode cX12_texts 100 = .ok (.ifCond .eq 27, 3) := by decide +kernel
theorem dX12_texts_103 : decode cX12_texts 103 = .ok (.aload_n 0, 1) := by decide +kernel
theorem dX12_texts_104 : decode cX12_texts 104 = .ok (.iload_n 1, 1) := by decide +kernel
theorem dX12_texts_105 : decode cX12_texts 105 = .ok (.invokevirtual 303, 3) := by decide +kernel
theorem dX12_texts_108 : decode cX12_texts 108 = .ok (.istore_n 2, 1) := by decide +kernel
theorem dX12_texts_109 : decode cX12_texts 109 = .ok (.iload_n 1, 1) := by decide +kernel
theorem dX12_texts_110 : decode cX12_texts 110 = .ok (.aload_n 0, 1) := by decide +kernel
theorem dX12_texts_111 : decode cX12_texts 111 = .ok (.getfield 306, 3) := by decide +kernel
theorem dX12_texts_114 : decode cX12_texts 114 = .ok (.ifCond .eq 7, 3) := by decide +kernel
theorem dX12_texts_117 : decode cX12_texts 117 = .ok (.iconst 1, 1) := by decide +kernel
theorem dX12_texts_118 : decode cX12_texts 118 = .ok (.goto 4, 3) := by decide +kernel
theorem dX12_texts_121 : decode cX12_texts 121 = .ok (.iconst 0, 1) := by decide +kernel
theorem dX12_texts_122 : decode cX12_texts 122 = .ok (.iadd, 1) := by decide +kernel
theorem dX12_texts_123 : decode cX12_texts 123 = .ok (.istore_n 1, 1) := by decide +kernel
theorem dX12_texts_124 : decode cX12_texts 124 = .ok (.goto (-37), 3) := by decide +kernel
theorem dX12_texts_127 : decode cX12_texts 127 = .ok (.aload_n 0, 1) := by decide +kernel
theorem dX12_texts_128 : decode cX12_texts 128 = .ok (.getfield 230, 3) := by decide +kernel
theorem dX12_texts_131 : decode cX12_texts 131 = .ok (.ifCond .ne 23, 3) := by decide +kernel
theorem dX12_texts_134 : decode cX12_texts 134 = .ok (.aload_n 0, 1) := by decide +kernel
theorem dX12_texts_135 : decode cX12_texts 135 = .ok (.getfield 184, 3) := by decide +kernel
theorem dX12_texts_138 : decode cX12_texts 138 = .ok (.iconst (-1), 1) := by decide +kernel
theorem dX12_texts_139 : decode cX12_texts 139 = .ok (.if_icmp .eq 11, 3) := by decide +kernel
theorem dX12_texts_142 : decode cX12_texts 142 = .ok (.aload_n 0, 1) := by decide +kernel
theorem dX12_texts_143 : decode cX12_texts 143 = .ok (.iconst 1, 1) := by decide +kernel
theorem dX12_texts_144 : decode cX12_texts 144 = .ok (.invokevirtual 260, 3) := by decide +kernel
theorem dX12_texts_147 : decode cX12_texts 147 = .ok (.ifCond .eq 7, 3) := by decide +kernel
theorem dX12_texts_150 : decode cX12_texts 150 = .ok (.iconst 1, 1) := by decide +kernel
theorem dX12_texts_151 : decode cX12_texts 151 = .ok (.goto 4, 3) := by decide +kernel
theorem dX12_texts_154 : decode cX12_texts 154 = .ok (.iconst 0, 1) := by decide +kernel
theorem dX12_texts_155 : decode cX12_texts 155 = .ok (.ireturn, 1) := by decide +kernel
theorem dX12_tells_0 : decode cX12_tells 0 = .ok (.aload_n 0, 1) := by decide +kernel
theorem dX12_tells_1 : decode cX12_tells 1 = .ok (.iconst 0, 1) := by decide +kernel
theorem dX12_tells_2 : decode cX12_tells 2 = .ok (.putfield 306, 3) := by decide +kernel
theorem dX12_tells_5 : decode cX12_tells 5 = .ok (.aload_n 0, 1) := by decide +kernel
theorem dX12_tells_6 : decode cX12_tells 6 = .ok (.iconst 3, 1) := by decide +kernel
theorem dX12_tells_7 : decode cX12_tells 7 = .ok (.iconst 0, 1) := by decide +kernel
theorem dX12_tells_8 : decode cX12_tells 8 = .ok (.invokevirtual 310, 3) := by decide +kernel
theorem dX12_tells_11 : decode cX12_tells 11 = .ok (.ifCond .eq 25, 3) := by decide +kernel
theorem dX12_tells_14 : decode cX12_tells 14 = .ok (.aload_n 0, 1) := by decide +kernel
theorem dX12_tells_15 : decode cX12_tells 15 = .ok (.iconst 0, 1) := by decide +kernel
theorem dX12_tells_16 : decode cX12_tells 16 = .ok (.iconst 1, 1) := by decide +kernel
theorem dX12_tells_17 : decode cX12_tells 17 = .ok (.invokevirtual 310, 3) := by decide +kernel
theorem dX12_tells_20 : decode cX12_tells 20 = .ok (.ifCond .eq 14, 3) := by decide +kernel
theorem dX12_tells_23 : decode cX12_tells 23 = .ok (.aload_n 0, 1) := by decide +kernel
theorem dX12_tells_24 : decode cX12_tells 24 = .ok (.invokevirtual 314, 3) := by decide +kernel
theorem dX12_tells_27 : decode cX12_tells 27 = .ok (.ifCond .eq 7, 3) := by decide +kernel
theorem dX12_tells_30 : decode cX12_tells 30 = .ok (.iconst 1, 1) := by decide +kernel
theorem dX12_tells_31 : decode cX12_tells 31 = .ok (.goto 4, 3) := by decide +kernel
theorem dX12_tells_34 : decode cX12_tells 34 = .ok (.iconst 0, 1) := by decide +kernel
theorem dX12_tells_35 : decode cX12_tells 35 = .ok (.ireturn, 1) := by decide +kernel
theorem dX12_tells_36 : decode cX12_tells 36 = .ok (.aload_n 0, 1) := by decide +kernel
theorem dX12_tells_37 : decode cX12_tells 37 = .ok (.iconst 2, 1) := by decide +kernel
theorem dX12_tells_38 : decode cX12_tells 38 = .ok (.invokevirtual 263, 3) := by decide +kernel
theorem dX12_tells_41 : decode cX12_tells 41 = .ok (.istore_n 2, 1) := by decide +kernel
theorem dX12_tells_42 : decode cX12_tells 42 = .ok (.aload_n 0, 1) := by decide +kernel
theorem dX12_tells_43 : decode cX12_tells 43 = .ok (.iconst 1, 1) := by decide +kernel
theorem dX12_tells_44 : decode cX12_tells 44 = .ok (.invokevirtual 263, 3) := by decide +kernel
theorem dX12_tells_47 : decode cX12_tells 47 = .ok (.istore_n 3, 1) := by decide +kernel
theorem dX12_tells_48 : decode cX12_tells 48 = .ok (.iload_n 2, 1) := by decide +kernel
theorem dX12_tells_49 : decode cX12_tells 49 = .ok (.ifCond .ne 21, 3) := by decide +kernel
theorem dX12_tells_52 : decode cX12_tells 52 = .ok (.iload_n 3, 1) := by decide +kernel
theorem dX12_tells_53 : decode cX12_tells 53 = .ok (.ifCond .ne 17, 3) := by decide +kernel
theorem dX12_tells_56 : decode cX12_tells 56 = .ok (.aload_n 0, 1) := by decide +kernel
theorem dX12_tells_57 : decode cX12_tells 57 = .ok (.iconst 0, 1) := by decide +kernel
theorem dX12_tells_58 : decode cX12_tells 58 = .ok (.invokevirtual 263, 3) := by decide +kernel
theorem dX12_tells_61 : decode cX12_tells 61 = .ok (.ifCond .ne 9, 3) := by decide +kernel
theorem dX12_tells_64 : decode cX12_tells 64 = .ok (.aload_n 0, 1) := by decide +kernel
theorem dX12_tells_65 : decode cX12_tells 65 = .ok (.iconst 2, 1) := by decide +kernel
theorem dX12_tells_66 : decode cX12_tells 66 = .ok (.invokevirtual 260, 3) := by decide +kernel
theorem dX12_tells_69 : decode cX12_tells 69 = .ok (.ireturn, 1) := by decide +kernel
theorem dX12_tells_70 : decode cX12_tells 70 = .ok (.aload_n 0, 1) := by decide +kernel
theorem dX12_tells_71 : decode cX12_tells 71 = .ok (.dup, 1) := by decide +kernel
theorem dX12_tells_72 : decode cX12_tells 72 = .ok (.getfield 233, 3) := by decide +kernel
theorem dX12_tells_75 : decode cX12_tells 75 = .ok (.iconst 1, 1) := by decide +kernel
theorem dX12_tells_76 : decode cX12_tells 76 = .ok (.iadd, 1) := by decide +kernel
theorem dX12_tells_77 : decode cX12_tells 77 = .ok (.putfield 233, 3) := by decide +kernel
theorem dX12_tells_80 : decode cX12_tells 80 = .ok (.aload_n 0, 1) := by decide +kernel
theorem dX12_tells_81 : decode cX12_tells 81 = .ok (.invokevirtual 317, 3) := by decide +kernel
theorem dX12_tells_84 : decode cX12_tells 84 = .ok (.istore 4, 2) := by decide +kernel
theorem dX12_tells_86 : decode cX12_tells 86 = .ok (.aload_n 0, 1) := by decide +kernel
theorem dX12_tells_87 : decode cX12_tells 87 = .ok (.getfield 230, 3) := by decide +kernel
theorem dX12_tells_90 : decode cX12_tells 90 = .ok (.ifCond .le 5, 3) := by decide +kernel
theorem dX12_tells_93 : decode cX12_tells 93 = .ok (.iconst 0, 1) := by decide +kernel
theorem dX12_tells_94 : decode cX12_tells 94 = .ok (.ireturn, 1) := by decide +kernel
theorem dX12_tells_95 : decode cX12_tells 95 = .ok (.iload_n 3, 1) := by decide +kernel
theorem dX12_tells_96 : decode cX12_tells 96 = .ok (.ifCond .ne 21, 3) := by decide +kernel
theorem dX12_tells_99 : decode cX12_tells 99 = .ok (.aload_n 0, 1) := by decide +kernel
theorem dX12_tells_100 : decode cX12_tells 100 = .ok (.bipush 22, 2) := by decide +kernel
theorem dX12_tells_102 : decode cX12_tells 102 = .ok (.invokevirtual 257, 3) := by decide +kernel
theorem dX12_tells_105 : decode cX12_tells 105 = .ok (.ifCond .eq 12, 3) := by decide +kernel
theorem dX12_tells_108 : decode cX12_tells 108 = .ok (.aload_n 0, 1) := by decide +kernel
theorem dX12_tells_109 : decode cX12_tells 109 = .ok (.iload_n 1, 1) := by decide +kernel
theorem dX12_tells_110 : decode cX12_tells 110 = .ok (.iload 4, 2) := by decide +kernel
theorem dX12_tells_112 : decode cX12_tells 112 = .ok (.iload_n 2, 1) := by decide +kernel
theorem dX12_tells_113 : decode cX12_tells 113 = .ok (.invokevirtual 320, 3) := by decide +kernel
theorem dX12_tells_116 : decode cX12_tells 116 = .ok (.ireturn, 1) := by decide +kernel
theorem dX12_tells_117 : decode cX12_tells 117 = .ok (.iload_n 2, 1) := by decide +kernel
theorem dX12_tells_118 : decode cX12_tells 118 = .ok (.ifCond .eq 9, 3) := by decide +kernel
theorem dX12_tells_121 : decode cX12_tells 121 = .ok (.aload_n 0, 1) := by decide +kernel
theorem dX12_tells_122 : decode cX12_tells 122 = .ok (.iconst 2, 1) := by decide +kernel
theorem dX12_tells_123 : decode cX12_tells 123 = .ok (.invokevirtual 260, 3) := by decide +kernel
theorem dX12_tells_126 : decode cX12_tells 126 = .ok (.ireturn, 1) := by decide +kernel
theorem dX12_tells_127 : decode cX12_tells 127 = .ok (.iload_n 3, 1) := by decide +kernel
theorem dX12_tells_128 : decode cX12_tells 128 = .ok (.ifCond .ne 36, 3) := by decide +kernel
theorem dX12_tells_131 : decode cX12_tells 131 = .ok (.aload_n 0, 1) := by decide +kernel
theorem dX12_tells_132 : decode cX12_tells 132 = .ok (.bipush 29, 2) := by decide +kernel
theorem dX12_tells_134 : decode cX12_tells 134 = .ok (.invokevirtual 257, 3) := by decide +kernel
theorem dX12_tells_137 : decode cX12_tells 137 = .ok (.ifCond .eq 27, 3) := by decide +kernel
theorem dX12_tells_140 : decode cX12_tells 140 = .ok (.aload_n 0, 1) := by decide +kernel
theorem dX12_tells_141 : decode cX12_tells 141 = .ok (.iload 4, 2) := by decide +kernel
theorem dX12_tells_143 : decode cX12_tells 143 = .ok (.invokevirtual 324, 3) := by decide +kernel
theorem dX12_tells_146 : decode cX12_tells 146 = .ok (.ifCond .eq 16, 3) := by decide +kernel
theorem dX12_tells_149 : decode cX12_tells 149 = .ok (.aload_n 0, 1) := by decide +kernel
theorem dX12_tells_150 : decode cX12_tells 150 = .ok (.bipush 29, 2) := by decide +kernel
theorem dX12_tells_152 : decode cX12_tells 152 = .ok (.invokevirtual 273, 3) := by decide +kernel
theorem dX12_tells_155 : decode cX12_tells 155 = .ok (.ifCond .eq 7, 3) := by decide +kernel
theorem dX12_tells_158 : decode cX12_tells 158 = .ok (.iconst 1, 1) := by decide +kernel
theorem dX12_tells_159 : decode cX12_tells 159 = .ok (.goto 4, 3) := by decide +kernel
theorem dX12_tells_162 : decode cX12_tells 162 = .ok (.iconst 0, 1) := by decide +kernel
theorem dX12_tells_163 : decode cX12_tells 163 = .ok (.ireturn, 1) := by decide +kernel
theorem dX12_tells_164 : decode cX12_tells 164 = .ok (.iload_n 3, 1) := by decide +kernel
theorem dX12_tells_165 : decode cX12_tells 165 = .ok (.ifCond .ne 104, 3) := by decide +kernel
theorem dX12_tells_168 : decode cX12_tells 168 = .ok (.aload_n 0, 1) := by decide +kernel
theorem dX12_tells_169 : decode cX12_tells 169 = .ok (.bipush 32, 2) := by decide +kernel
theorem dX12_tells_171 : decode cX12_tells 171 = .ok (.invokevirtual 257, 3) := by decide +kernel
theorem dX12_tells_174 : decode cX12_tells 174 = .ok (.ifCond .eq 95, 3) := by decide +kernel
theorem dX12_tells_177 : decode cX12_tells 177 = .ok (.aload_n 0, 1) := by decide +kernel
theorem dX12_tells_178 : decode cX12_tells 178 = .ok (.iload 4, 2) := by decide +kernel
theorem dX12_tells_180 : decode cX12_tells 180 = .ok (.invokevirtual 327, 3) := by decide +kernel
theorem dX12_tells_183 : decode cX12_tells 183 = .ok (.istore 5, 2) := by decide +kernel
theorem dX12_tells_185 : decode cX12_tells 185 = .ok (.aload_n 0, 1) := by decide +kernel
theorem dX12_tells_186 : decode cX12_tells 186 = .ok (.dup, 1) := by decide +kernel
theorem dX12_tells_187 : decode cX12_tells 187 = .ok (.getfield 233, 3) := by decide +kernel
theorem dX12_tells_190 : decode cX12_tells 190 = .ok (.iconst 1, 1) := by decide +kernel
theorem dX12_tells_191 : decode cX12_tells 191 = .ok (.iadd, 1) := by decide +kernel
theorem dX12_tells_192 : decode cX12_tells 192 = .ok (.putfield 233, 3) := by decide +kernel
theorem dX12_tells_195 : decode cX12_tells 195 = .ok (.aload_n 0, 1) := by decide +kernel
theorem dX12_tells_196 : decode cX12_tells 196 = .ok (.invokevirtual 330, 3) := by decide +kernel
theorem dX12_tells_199 : decode cX12_tells 199 = .ok (.istore 6, 2) := by decide +kernel
theorem dX12_tells_201 : decode cX12_tells 201 = .ok (.aload_n 0, 1) := by decide +kernel
theorem dX12_tells_202 : decode cX12_tells 202 = .ok (.getfield 230, 3) := by decide +kernel
theorem dX12_tells_205 : decode cX12_tells 205 = .ok (.ifCond .le 5, 3) := by decide +kernel
theorem dX12_tells_208 : decode cX12_tells 208 = .ok (.iconst 0, 1) := by decide +kernel
theorem dX12_tells_209 : decode cX12_tells 209 = .ok (.ireturn, 1) := by decide +kernel
theorem dX12_tells_210 : decode cX12_tells 210 = .ok (.aload_n 0, 1) := by decide +kernel
theorem dX12_tells_211 : decode cX12_tells 211 = .ok (.getfield 245, 3) := by decide +kernel
theorem dX12_tells_214 : decode cX12_tells 214 = .ok (.ifCond .le 25, 3) := by decide +kernel
theorem dX12_tells_217 : decode cX12_tells 217 = .ok (.iload 5, 2) := by decide +kernel
theorem dX12_tells_219 : decode cX12_tells 219 = .ok (.sipush 2000, 3) := by decide +kernel
theorem dX12_tells_222 : decode cX12_tells 222 = .ok (.if_icmp .ge 17, 3) := by decide +kernel
theorem dX12_tells_225 : decode cX12_tells 225 = .ok (.aload_n 0, 1) := by decide +kernel
theorem dX12_tells_226 : decode cX12_tells 226 = .ok (.getfield 101, 3) := by decide +kernel
theorem dX12_tells_229 : decode cX12_tells 229 = .ok (.aload_n 0, 1) := by decide +kernel
theorem dX12_tells_230 : decode cX12_tells 230 = .ok (.getfield 95, 3) := by decide +kernel
theorem dX12_tells_233 : decode cX12_tells 233 = .ok (.iload 5, 2) := by decide +kernel
theorem dX12_tells_235 : decode cX12_tells 235 = .ok (.iaload, 1) := by decide +kernel
theorem dX12_tells_236 : decode cX12_tells 236 = .ok (.iload 6, 2) := by decide +kernel
theorem dX12_tells_238 : decode cX12_tells 238 = .ok (.iastore, 1) := by decide +kernel
theorem dX12_tells_239 : decode cX12_tells 239 = .ok (.aload_n 0, 1) := by decide +kernel
theorem dX12_tells_240 : decode cX12_tells 240 = .ok (.iload 4, 2) := by decide +kernel
theorem dX12_tells_242 : decode cX12_tells 242 = .ok (.iconst 1, 1) := by decide +kernel
theorem dX12_tells_243 : decode cX12_tells 243 = .ok (.iconst 0, 1) := by decide +kernel
theorem dX12_tells_244 : decode cX12_tells 244 = .ok (.aload_n 0, 1) := by decide +kernel
theorem dX12_tells_245 : decode cX12_tells 245 = .ok (.getfield 95, 3) := by decide +kernel
theorem dX12_tells_248 : decode cX12_tells 248 = .ok (.iload 5, 2) := by decide +kernel
theorem dX12_tells_250 : decode cX12_tells 250 = .ok (.sipush 2000, 3) := by decide +kernel
theorem dX12_tells_253 : decode cX12_tells 253 = .ok (.invokestatic 333, 3) := by decide +kernel
theorem dX12_tells_256 : decode cX12_tells 256 = .ok (.iaload, 1) := by decide +kernel
theorem dX12_tells_257 : decode cX12_tells 257 = .ok (.iconst 1, 1) := by decide +kernel
theorem dX12_tells_258 : decode cX12_tells 258 = .ok (.iconst 0, 1) := by decide +kernel
theorem dX12_tells_259 : decode cX12_tells 259 = .ok (.invokevirtual 338, 3) := by decide +kernel
theorem dX12_tells_262 : decode cX12_tells 262 = .ok (.aload_n 0, 1) := by decide +kernel
theorem dX12_tells_263 : decode cX12_tells 263 = .ok (.bipush 29, 2) := by decide +kernel
theorem dX12_tells_265 : decode cX12_tells 265 = .ok (.invokevirtual 273, 3) := by decide +kernel
theorem dX12_tells_268 : decode cX12_tells 268 = .ok (.ireturn, 1) := by decide +kernel
theorem dX12_tells_269 : decode cX12_tells 269 = .ok (.aload_n 0, 1) := by decide +kernel
theorem dX12_tells_270 : decode cX12_tells 270 = .ok (.iload 4, 2) := by decide +kernel
theorem dX12_tells_272 : decode cX12_tells 272 = .ok (.iload_n 3, 1) := by decide +kernel
theorem dX12_tells_273 : decode cX12_tells 273 = .ok (.invokevirtual 342, 3) := by decide +kernel
theorem dX12_tells_276 : decode cX12_tells 276 = .ok (.ifCond .eq 16, 3) := by decide +kernel
theorem dX12_tells_279 : decode cX12_tells 279 = .ok (.aload_n 0, 1) := by decide +kernel
theorem dX12_tells_280 : decode cX12_tells 280 = .ok (.bipush 29, 2) := by decide +kernel
theorem dX12_tells_282 : decode cX12_tells 282 = .ok (.invokevirtual 273, 3) := by decide +kernel
theorem dX12_tells_285 : decode cX12_tells 285 = .ok (.ifCond .eq 7, 3) := by decide +kernel
theorem dX12_tells_288 : decode cX12_tells 288 = .ok (.iconst 1, 1) := by decide +kernel
theorem dX12_tells_289 : decode cX12_tells 289 = .ok (.goto 4, 3) := by decide +kernel
theorem dX12_tells_292 : decode cX12_tells 292 = .ok (.iconst 0, 1) := by decide +kernel
theorem dX12_tells_293 : decode cX12_tells 293 = .ok (.ireturn, 1) := by decide +kernel
theorem dX12_constantTold_0 : decode cX12_constantTold 0 = .ok (.aload_n 0, 1) := by decide +kernel
theorem dX12_constantTold_1 : decode cX12_constantTold 1 = .ok (.invokevirtual 317, 3) := by decide +kernel
theorem dX12_constantTold_4 : decode cX12_constantTold 4 = .ok (.istore_n 1, 1) := by decide +kernel
theorem dX12_constantTold_5 : decode cX12_constantTold 5 = .ok (.aload_n 0, 1) := by decide +kernel
theorem dX12_constantTold_6 : decode cX12_constantTold 6 = .ok (.bipush 32, 2) := by decide +kernel
theorem dX12_constantTold_8 : decode cX12_constantTold 8 = .ok (.invokevirtual 273, 3) := by decide +kernel
theorem dX12_constantTold_11 : decode cX12_constantTold 11 = .ok (.ifCond .ne 5, 3) := by decide +kernel
theorem dX12_constantTold_14 : decode cX12_constantTold 14 = .ok (.iconst 0, 1) := by decide +kernel
theorem dX12_constantTold_15 : decode cX12_constantTold 15 = .ok (.ireturn, 1) := by decide +kernel
theorem dX12_constantTold_16 : decode cX12_constantTold 16 = .ok (.aload_n 0, 1) := by decide +kernel
theorem dX12_constantTold_17 : decode cX12_constantTold 17 = .ok (.invokevirtual 330, 3) := by decide +kernel
theorem dX12_constantTold_20 : decode cX12_constantTold 20 = .ok (.istore_n 2, 1) := by decide +kernel
theorem dX12_constantTold_21 : decode cX12_constantTold 21 = .ok (.aload_n 0, 1) := by decide +kernel
theorem dX12_constantTold_22 : decode cX12_constantTold 22 = .ok (.getfield 230, 3) := by decide +kernel
theorem dX12_constantTold_25 : decode cX12_constantTold 25 = .ok (.ifCond .le 5, 3) := by decide +kernel
theorem dX12_constantTold_28 : decode cX12_constantTold 28 = .ok (.iconst 0, 1) := by decide +kernel
theorem dX12_constantTold_29 : decode cX12_constantTold 29 = .ok (.ireturn, 1) := by decide +kernel
theorem dX12_constantTold_30 : decode cX12_constantTold 30 = .ok (.aload_n 0, 1) := by decide +kernel
theorem dX12_constantTold_31 : decode cX12_constantTold 31 = .ok (.getfield 345, 3) := by decide +kernel
theorem dX12_constantTold_34 : decode cX12_constantTold 34 = .ok (.istore_n 3, 1) := by decide +kernel
theorem dX12_constantTold_35 : decode cX12_constantTold 35 = .ok (.aload_n 0, 1) := by decide +kernel
theorem dX12_constantTold_36 : decode cX12_constantTold 36 = .ok (.iload_n 1, 1) := by decide +kernel
theorem dX12_constantTold_37 : decode cX12_constantTold 37 = .ok (.invokevirtual 348, 3) := by decide +kernel
theorem dX12_constantTold_40 : decode cX12_constantTold 40 = .ok (.aload_n 0, 1) := by decide +kernel
theorem dX12_constantTold_41 : decode cX12_constantTold 41 = .ok (.iload_n 1, 1) := by decide +kernel
theorem dX12_constantTold_42 : decode cX12_constantTold 42 = .ok (.iconst 0, 1) := by decide +kernel
theorem dX12_constantTold_43 : decode cX12_constantTold 43 = .ok (.iconst 0, 1) := by decide +kernel
theorem dX12_constantTold_44 : decode cX12_constantTold 44 = .ok (.iload_n 2, 1) := by decide +kernel
theorem dX12_constantTold_45 : decode cX12_constantTold 45 = .ok (.iload_n 3, 1) := by decide +kernel
theorem dX12_constantTold_46 : decode cX12_constantTold 46 = .ok (.ifCond .eq 7, 3) := by decide +kernel
theorem dX12_constantTold_49 : decode cX12_constantTold 49 = .ok (.iconst (-1), 1) := by decide +kernel
theorem dX12_constantTold_50 : decode cX12_constantTold 50 = .ok (.goto 4, 3) := by decide +kernel
theorem dX12_constantTold_53 : decode cX12_constantTold 53 = .ok (.iconst 1, 1) := by decide +kernel
theorem dX12_constantTold_54 : decode cX12_constantTold 54 = .ok (.iconst 0, 1) := by decide +kernel
theorem dX12_constantTold_55 : decode cX12_constantTold 55 = .ok (.invokevirtual 338, 3) := by decide +kernel
theorem dX12_constantTold_58 : decode cX12_constantTold 58 = .ok (.aload_n 0, 1) := by decide +kernel
theorem dX12_constantTold_59 : decode cX12_constantTold 59 = .ok (.bipush 29, 2) := by decide +kernel
theorem dX12_constantTold_61 : decode cX12_constantTold 61 = .ok (.invokevirtual 273, 3) := by decide +kernel
theorem dX12_constantTold_64 : decode cX12_constantTold 64 = .ok (.ireturn, 1) := by decide +kernel
theorem dX12_globalInt_0 : decode cX12_globalInt 0 = .ok (.aload_n 0, 1) := by decide +kernel
theorem dX12_globalInt_1 : decode cX12_globalInt 1 = .ok (.iload_n 1, 1) := by decide +kernel
theorem dX12_globalInt_2 : decode cX12_globalInt 2 = .ok (.invokevirtual 327, 3) := by decide +kernel
theorem dX12_globalInt_5 : decode cX12_globalInt 5 = .ok (.istore_n 2, 1) := by decide +kernel
theorem dX12_globalInt_6 : decode cX12_globalInt 6 = .ok (.aload_n 0, 1) := by decide +kernel
theorem dX12_globalInt_7 : decode cX12_globalInt 7 = .ok (.iload_n 1, 1) := by decide +kernel
theorem dX12_globalInt_8 : decode cX12_globalInt 8 = .ok (.iconst 1, 1) := by decide +kernel
theorem dX12_globalInt_9 : decode cX12_globalInt 9 = .ok (.iconst 0, 1) := by decide +kernel
theorem dX12_globalInt_10 : decode cX12_globalInt 10 = .ok (.aload_n 0, 1) := by decide +kernel
theorem dX12_globalInt_11 : decode cX12_globalInt 11 = .ok (.getfield 95, 3) := by decide +kernel
theorem dX12_globalInt_14 : decode cX12_globalInt 14 = .ok (.iload_n 2, 1) := by decide +kernel
theorem dX12_globalInt_15 : decode cX12_globalInt 15 = .ok (.sipush 2000, 3) := by decide +kernel
theorem dX12_globalInt_18 : decode cX12_globalInt 18 = .ok (.invokestatic 333, 3) := by decide +kernel
theorem dX12_globalInt_21 : decode cX12_globalInt 21 = .ok (.iaload, 1) := by decide +kernel
theorem dX12_globalInt_22 : decode cX12_globalInt 22 = .ok (.iconst 1, 1) := by decide +kernel
theorem dX12_globalInt_23 : decode cX12_globalInt 23 = .ok (.iconst 0, 1) := by decide +kernel
theorem dX12_globalInt_24 : decode cX12_globalInt 24 = .ok (.invokevirtual 338, 3) := by decide +kernel
theorem dX12_globalInt_27 : decode cX12_globalInt 27 = .ok (.iconst 1, 1) := by decide +kernel
theorem dX12_globalInt_28 : decode cX12_globalInt 28 = .ok (.ireturn, 1) := by decide +kernel
theorem dX12_globalAt_0 : decode cX12_globalAt 0 = .ok (.aload_n 0, 1) := by decide +kernel
theorem dX12_globalAt_1 : decode cX12_globalAt 1 = .ok (.iload_n 1, 1) := by decide +kernel
theorem dX12_globalAt_2 : decode cX12_globalAt 2 = .ok (.invokevirtual 348, 3) := by decide +kernel
theorem dX12_globalAt_5 : decode cX12_globalAt 5 = .ok (.aload_n 0, 1) := by decide +kernel
theorem dX12_globalAt_6 : decode cX12_globalAt 6 = .ok (.getfield 288, 3) := by decide +kernel
theorem dX12_globalAt_9 : decode cX12_globalAt 9 = .ok (.istore_n 2, 1) := by decide +kernel
theorem dX12_globalAt_10 : decode cX12_globalAt 10 = .ok (.aload_n 0, 1) := by decide +kernel
theorem dX12_globalAt_11 : decode cX12_globalAt 11 = .ok (.dup, 1) := by decide +kernel
theorem dX12_globalAt_12 : decode cX12_globalAt 12 = .ok (.getfield 288, 3) := by decide +kernel
theorem dX12_globalAt_15 : decode cX12_globalAt 15 = .ok (.iconst 1, 1) := by decide +kernel
theorem dX12_globalAt_16 : decode cX12_globalAt 16 = .ok (.iadd, 1) := by decide +kernel
theorem dX12_globalAt_17 : decode cX12_globalAt 17 = .ok (.putfield 288, 3) := by decide +kernel
theorem dX12_globalAt_20 : decode cX12_globalAt 20 = .ok (.aload_n 0, 1) := by decide +kernel
theorem dX12_globalAt_21 : decode cX12_globalAt 21 = .ok (.getfield 288, 3) := by decide +kernel
theorem dX12_globalAt_24 : decode cX12_globalAt 24 = .ok (.sipush 2000, 3) := by decide +kernel
theorem dX12_globalAt_27 : decode cX12_globalAt 27 = .ok (.if_icmp .le 15, 3) := by decide +kernel
theorem dX12_globalAt_30 : decode cX12_globalAt 30 = .ok (.aload_n 0, 1) := by decide +kernel
theorem dX12_globalAt_31 : decode cX12_globalAt 31 = .ok (.bipush 11, 2) := by decide +kernel
theorem dX12_globalAt_33 : decode cX12_globalAt 33 = .ok (.aload_n 0, 1) := by decide +kernel
theorem dX12_globalAt_34 : decode cX12_globalAt 34 = .ok (.getfield 22, 3) := by decide +kernel
theorem dX12_globalAt_37 : decode cX12_globalAt 37 = .ok (.iload_n 1, 1) := by decide +kernel
theorem dX12_globalAt_38 : decode cX12_globalAt 38 = .ok (.iaload, 1) := by decide +kernel
theorem dX12_globalAt_39 : decode cX12_globalAt 39 = .ok (.invokevirtual 352, 3) := by decide +kernel
theorem dX12_globalAt_42 : decode cX12_globalAt 42 = .ok (.iload_n 2, 1) := by decide +kernel
theorem dX12_globalAt_43 : decode cX12_globalAt 43 = .ok (.sipush 2000, 3) := by decide +kernel
theorem dX12_globalAt_46 : decode cX12_globalAt 46 = .ok (.if_icmp .gt 27, 3) := by decide +kernel
theorem dX12_globalAt_49 : decode cX12_globalAt 49 = .ok (.aload_n 0, 1) := by decide +kernel
theorem dX12_globalAt_50 : decode cX12_globalAt 50 = .ok (.getfield 92, 3) := by decide +kernel
theorem dX12_globalAt_53 : decode cX12_globalAt 53 = .ok (.iload_n 2, 1) := by decide +kernel
theorem dX12_globalAt_54 : decode cX12_globalAt 54 = .ok (.iconst 1, 1) := by decide +kernel
theorem dX12_globalAt_55 : decode cX12_globalAt 55 = .ok (.iastore, 1) := by decide +kernel
theorem dX12_globalAt_56 : decode cX12_globalAt 56 = .ok (.aload_n 0, 1) := by decide +kernel
theorem dX12_globalAt_57 : decode cX12_globalAt 57 = .ok (.getfield 98, 3) := by decide +kernel
theorem dX12_globalAt_60 : decode cX12_globalAt 60 = .ok (.iload_n 2, 1) := by decide +kernel
theorem dX12_globalAt_61 : decode cX12_globalAt 61 = .ok (.iconst 0, 1) := by decide +kernel
theorem dX12_globalAt_62 : decode cX12_globalAt 62 = .ok (.bastore, 1) := by decide +kernel
theorem dX12_globalAt_63 : decode cX12_globalAt 63 = .ok (.aload_n 0, 1) := by decide +kernel
theorem dX12_globalAt_64 : decode cX12_globalAt 64 = .ok (.getfield 95, 3) := by decide +kernel
theorem dX12_globalAt_67 : decode cX12_globalAt 67 = .ok (.iload_n 2, 1) := by decide +kernel
theorem dX12_globalAt_68 : decode cX12_globalAt 68 = .ok (.aload_n 0, 1) := by decide +kernel
theorem dX12_globalAt_69 : decode cX12_globalAt 69 = .ok (.getfield 291, 3) := by decide +kernel
theorem dX12_globalAt_72 : decode cX12_globalAt 72 = .ok (.iastore, 1) := by decide +kernel
theorem dX12_globalAt_73 : decode cX12_globalAt 73 = .ok (.iload_n 2, 1) := by decide +kernel
theorem dX12_globalAt_74 : decode cX12_globalAt 74 = .ok (.sipush 2000, 3) := by decide +kernel
theorem dX12_globalAt_77 : decode cX12_globalAt 77 = .ok (.if_icmp .ge 23, 3) := by decide +kernel
theorem dX12_globalAt_80 : decode cX12_globalAt 80 = .ok (.aload_n 0, 1) := by decide +kernel
theorem dX12_globalAt_81 : decode cX12_globalAt 81 = .ok (.getfield 101, 3) := by decide +kernel
theorem dX12_globalAt_84 : decode cX12_globalAt 84 = .ok (.aload_n 0, 1) := by decide +kernel
theorem dX12_globalAt_85 : decode cX12_globalAt 85 = .ok (.getfield 291, 3) := by decide +kernel
theorem dX12_globalAt_88 : decode cX12_globalAt 88 = .ok (.iconst 0, 1) := by decide +kernel
theorem dX12_globalAt_89 : decode cX12_globalAt 89 = .ok (.iastore, 1) := by decide +kernel
theorem dX12_globalAt_90 : decode cX12_globalAt 90 = .ok (.aload_n 0, 1) := by decide +kernel
theorem dX12_globalAt_91 : decode cX12_globalAt 91 = .ok (.dup, 1) := by decide +kernel
theorem dX12_globalAt_92 : decode cX12_globalAt 92 = .ok (.getfield 291, 3) := by decide +kernel
theorem dX12_globalAt_95 : decode cX12_globalAt 95 = .ok (.iconst 1, 1) := by decide +kernel
theorem dX12_globalAt_96 : decode cX12_globalAt 96 = .ok (.iadd, 1) := by decide +kernel
theorem dX12_globalAt_97 : decode cX12_globalAt 97 = .ok (.putfield 291, 3) := by decide +kernel
theorem dX12_globalAt_100 : decode cX12_globalAt 100 = .ok (.iload_n 2, 1) := by decide +kernel
theorem dX12_globalAt_101 : decode cX12_globalAt 101 = .ok (.ireturn, 1) := by decide +kernel
theorem dX12_array_0 : decode cX12_array 0 = .ok (.aload_n 0, 1) := by decide +kernel
theorem dX12_array_1 : decode cX12_array 1 = .ok (.iload_n 1, 1) := by decide +kernel
theorem dX12_array_2 : decode cX12_array 2 = .ok (.invokevirtual 348, 3) := by decide +kernel
theorem dX12_array_5 : decode cX12_array 5 = .ok (.aload_n 0, 1) := by decide +kernel
theorem dX12_array_6 : decode cX12_array 6 = .ok (.bipush 24, 2) := by decide +kernel
theorem dX12_array_8 : decode cX12_array 8 = .ok (.invokevirtual 356, 3) := by decide +kernel
theorem dX12_array_11 : decode cX12_array 11 = .ok (.ifCond .ne 5, 3) := by decide +kernel
theorem dX12_array_14 : decode cX12_array 14 = .ok (.iconst 0, 1) := by decide +kernel
theorem dX12_array_15 : decode cX12_array 15 = .ok (.ireturn, 1) := by decide +kernel
theorem dX12_array_16 : decode cX12_array 16 = .ok (.aload_n 0, 1) := by decide +kernel
theorem dX12_array_17 : decode cX12_array 17 = .ok (.invokevirtual 359, 3) := by decide +kernel
theorem dX12_array_20 : decode cX12_array 20 = .ok (.istore_n 3, 1) := by decide +kernel
theorem dX12_array_21 : decode cX12_array 21 = .ok (.aload_n 0, 1) := by decide +kernel
theorem dX12_array_22 : decode cX12_array 22 = .ok (.bipush 25, 2) := by decide +kernel
theorem dX12_array_24 : decode cX12_array 24 = .ok (.invokevirtual 362, 3) := by decide +kernel
theorem dX12_array_27 : decode cX12_array 27 = .ok (.ifCond .ne 5, 3) := by decide +kernel
theorem dX12_array_30 : decode cX12_array 30 = .ok (.iconst 0, 1) := by decide +kernel
theorem dX12_array_31 : decode cX12_array 31 = .ok (.ireturn, 1) := by decide +kernel
theorem dX12_array_32 : decode cX12_array 32 = .ok (.aload_n 0, 1) := by decide +kernel
theorem dX12_array_33 : decode cX12_array 33 = .ok (.getfield 291, 3) := by decide +kernel
theorem dX12_array_36 : decode cX12_array 36 = .ok (.istore 4, 2) := by decide +kernel
theorem dX12_array_38 : decode cX12_array 38 = .ok (.iload_n 3, 1) := by decide +kernel
theorem dX12_array_39 : decode cX12_array 39 = .ok (.iconst (-1), 1) := by decide +kernel
theorem dX12_array_40 : decode cX12_array 40 = .ok (.if_icmp .ne 7, 3) := by decide +kernel
theorem dX12_array_43 : decode cX12_array 43 = .ok (.iconst 0, 1) := by decide +kernel
theorem dX12_array_44 : decode cX12_array 44 = .ok (.goto 16, 3) := by decide +kernel
theorem dX12_array_47 : decode cX12_array 47 = .ok (.iload_n 2, 1) := by decide +kernel
theorem dX12_array_48 : decode cX12_array 48 = .ok (.ifCond .eq 11, 3) := by decide +kernel
theorem dX12_array_51 : decode cX12_array 51 = .ok (.iload_n 3, 1) := by decide +kernel
theorem dX12_array_52 : decode cX12_array 52 = .ok (.iconst 3, 1) := by decide +kernel
theorem dX12_array_53 : decode cX12_array 53 = .ok (.iadd, 1) := by decide +kernel
theorem dX12_array_54 : decode cX12_array 54 = .ok (.iconst 4, 1) := by decide +kernel
theorem dX12_array_55 : decode cX12_array 55 = .ok (.idiv, 1) := by decide +kernel
theorem dX12_array_56 : decode cX12_array 56 = .ok (.goto 4, 3) := by decide +kernel
theorem dX12_array_59 : decode cX12_array 59 = .ok (.iload_n 3, 1) := by decide +kernel
theorem dX12_array_60 : decode cX12_array 60 = .ok (.istore 5, 2) := by decide +kernel
theorem dX12_array_62 : decode cX12_array 62 = .ok (.aload_n 0, 1) := by decide +kernel
theorem dX12_array_63 : decode cX12_array 63 = .ok (.getfield 288, 3) := by decide +kernel
theorem dX12_array_66 : decode cX12_array 66 = .ok (.iload 5, 2) := by decide +kernel
theorem dX12_array_68 : decode cX12_array 68 = .ok (.iadd, 1) := by decide +kernel
theorem dX12_array_69 : decode cX12_array 69 = .ok (.sipush 2000, 3) := by decide +kernel
theorem dX12_array_72 : decode cX12_array 72 = .ok (.if_icmp .gt 7, 3) := by decide +kernel
theorem dX12_array_75 : decode cX12_array 75 = .ok (.iconst 1, 1) := by decide +kernel
theorem dX12_array_76 : decode cX12_array 76 = .ok (.goto 4, 3) := by decide +kernel
theorem dX12_array_79 : decode cX12_array 79 = .ok (.iconst 0, 1) := by decide +kernel
theorem dX12_array_80 : decode cX12_array 80 = .ok (.istore 6, 2) := by decide +kernel
theorem dX12_array_82 : decode cX12_array 82 = .ok (.iload 6, 2) := by decide +kernel
theorem dX12_array_84 : decode cX12_array 84 = .ok (.ifCond .ne 15, 3) := by decide +kernel
theorem dX12_array_87 : decode cX12_array 87 = .ok (.aload_n 0, 1) := by decide +kernel
theorem dX12_array_88 : decode cX12_array 88 = .ok (.bipush 11, 2) := by decide +kernel
theorem dX12_array_90 : decode cX12_array 90 = .ok (.aload_n 0, 1) := by decide +kernel
theorem dX12_array_91 : decode cX12_array 91 = .ok (.getfield 22, 3) := by decide +kernel
theorem dX12_array_94 : decode cX12_array 94 = .ok (.iload_n 1, 1) := by decide +kernel
theorem dX12_array_95 : decode cX12_array 95 = .ok (.iaload, 1) := by decide +kernel
theorem dX12_array_96 : decode cX12_array 96 = .ok (.invokevirtual 352, 3) := by decide +kernel
theorem dX12_array_99 : decode cX12_array 99 = .ok (.iconst 0, 1) := by decide +kernel
theorem dX12_array_100 : decode cX12_array 100 = .ok (.istore 7, 2) := by decide +kernel
theorem dX12_array_102 : decode cX12_array 102 = .ok (.iload 7, 2) := by decide +kernel
theorem dX12_array_104 : decode cX12_array 104 = .ok (.iload 5, 2) := by decide +kernel
theorem dX12_array_106 : decode cX12_array 106 = .ok (.if_icmp .ge 87, 3) := by decide +kernel
theorem dX12_array_109 : decode cX12_array 109 = .ok (.iload 6, 2) := by decide +kernel
theorem dX12_array_111 : decode cX12_array 111 = .ok (.ifCond .eq 82, 3) := by decide +kernel
theorem dX12_array_114 : decode cX12_array 114 = .ok (.aload_n 0, 1) := by decide +kernel
theorem dX12_array_115 : decode cX12_array 115 = .ok (.getfield 95, 3) := by decide +kernel
theorem dX12_array_118 : decode cX12_array 118 = .ok (.aload_n 0, 1) := by decide +kernel
theorem dX12_array_119 : decode cX12_array 119 = .ok (.getfield 288, 3) := by decide +kernel
theorem dX12_array_122 : decode cX12_array 122 = .ok (.iload 7, 2) := by decide +kernel
theorem dX12_array_124 : decode cX12_array 124 = .ok (.iadd, 1) := by decide +kernel
theorem dX12_array_125 : decode cX12_array 125 = .ok (.aload_n 0, 1) := by decide +kernel
theorem dX12_array_126 : decode cX12_array 126 = .ok (.getfield 291, 3) := by decide +kernel
theorem dX12_array_129 : decode cX12_array 129 = .ok (.iload_n 2, 1) := by decide +kernel
theorem dX12_array_130 : decode cX12_array 130 = .ok (.ifCond .eq 10, 3) := by decide +kernel
theorem dX12_array_133 : decode cX12_array 133 = .ok (.iconst 4, 1) := by decide +kernel
theorem dX12_array_134 : decode cX12_array 134 = .ok (.iload 7, 2) := by decide +kernel
theorem dX12_array_136 : decode cX12_array 136 = .ok (.imul, 1) := by decide +kernel
theorem dX12_array_137 : decode cX12_array 137 = .ok (.goto 5, 3) := by decide +kernel
theorem dX12_array_140 : decode cX12_array 140 = .ok (.iload 7, 2) := by decide +kernel
theorem dX12_array_142 : decode cX12_array 142 = .ok (.iadd, 1) := by decide +kernel
theorem dX12_array_143 : decode cX12_array 143 = .ok (.iastore, 1) := by decide +kernel
theorem dX12_array_144 : decode cX12_array 144 = .ok (.aload_n 0, 1) := by decide +kernel
theorem dX12_array_145 : decode cX12_array 145 = .ok (.getfield 98, 3) := by decide +kernel
theorem dX12_array_148 : decode cX12_array 148 = .ok (.aload_n 0, 1) := by decide +kernel
theorem dX12_array_149 : decode cX12_array 149 = .ok (.getfield 288, 3) := by decide +kernel
theorem dX12_array_152 : decode cX12_array 152 = .ok (.iload 7, 2) := by decide +kernel
theorem dX12_array_154 : decode cX12_array 154 = .ok (.iadd, 1) := by decide +kernel
theorem dX12_array_155 : decode cX12_array 155 = .ok (.iload_n 2, 1) := by decide +kernel
theorem dX12_array_156 : decode cX12_array 156 = .ok (.bastore, 1) := by decide +kernel
theorem dX12_array_157 : decode cX12_array 157 = .ok (.aload_n 0, 1) := by decide +kernel
theorem dX12_array_158 : decode cX12_array 158 = .ok (.getfield 92, 3) := by decide +kernel
theorem dX12_array_161 : decode cX12_array 161 = .ok (.aload_n 0, 1) := by decide +kernel
theorem dX12_array_162 : decode cX12_array 162 = .ok (.getfield 288, 3) := by decide +kernel
theorem dX12_array_165 : decode cX12_array 165 = .ok (.iload 7, 2) := by decide +kernel
theorem dX12_array_167 : decode cX12_array 167 = .ok (.iadd, 1) := by decide +kernel
theorem dX12_array_168 : decode cX12_array 168 = .ok (.iload_n 2, 1) := by decide +kernel
theorem dX12_array_169 : decode cX12_array 169 = .ok (.ifCond .eq 16, 3) := by decide +kernel
theorem dX12_array_172 : decode cX12_array 172 = .ok (.iconst 4, 1) := by decide +kernel
theorem dX12_array_173 : decode cX12_array 173 = .ok (.iload_n 3, 1) := by decide +kernel
theorem dX12_array_174 : decode cX12_array 174 = .ok (.iconst 4, 1) := by decide +kernel
theorem dX12_array_175 : decode cX12_array 175 = .ok (.iload 7, 2) := by decide +kernel
theorem dX12_array_177 : decode cX12_array 177 = .ok (.imul, 1) := by decide +kernel
theorem dX12_array_178 : decode cX12_array 178 = .ok (.isub, 1) := by decide +kernel
theorem dX12_array_179 : decode cX12_array 179 = .ok (.invokestatic 333, 3) := by decide +kernel
theorem dX12_array_182 : decode cX12_array 182 = .ok (.goto 4, 3) := by decide +kernel
theorem dX12_array_185 : decode cX12_array 185 = .ok (.iconst 1, 1) := by decide +kernel
theorem dX12_array_186 : decode cX12_array 186 = .ok (.iastore, 1) := by decide +kernel
theorem dX12_array_187 : decode cX12_array 187 = .ok (.iinc 7 1, 3) := by decide +kernel
theorem dX12_array_190 : decode cX12_array 190 = .ok (.goto (-88), 3) := by decide +kernel
theorem dX12_array_193 : decode cX12_array 193 = .ok (.aload_n 0, 1) := by decide +kernel
theorem dX12_array_194 : decode cX12_array 194 = .ok (.dup, 1) := by decide +kernel
theorem dX12_array_195 : decode cX12_array 195 = .ok (.getfield 288, 3) := by decide +kernel
theorem dX12_array_198 : decode cX12_array 198 = .ok (.iload 5, 2) := by decide +kernel
theorem dX12_array_200 : decode cX12_array 200 = .ok (.iadd, 1) := by decide +kernel
theorem dX12_array_201 : decode cX12_array 201 = .ok (.putfield 288, 3) := by decide +kernel
theorem dX12_array_204 : decode cX12_array 204 = .ok (.iload_n 3, 1) := by decide +kernel
theorem dX12_array_205 : decode cX12_array 205 = .ok (.iconst (-1), 1) := by decide +kernel
theorem dX12_array_206 : decode cX12_array 206 = .ok (.if_icmp .eq 8, 3) := by decide +kernel
theorem dX12_array_209 : decode cX12_array 209 = .ok (.iload 6, 2) := by decide +kernel
theorem dX12_array_211 : decode cX12_array 211 = .ok (.ifCond .ne 7, 3) := by decide +kernel
theorem dX12_array_214 : decode cX12_array 214 = .ok (.iconst 0, 1) := by decide +kernel
theorem dX12_array_215 : decode cX12_array 215 = .ok (.goto 4, 3) := by decide +kernel
theorem dX12_array_218 : decode cX12_array 218 = .ok (.iload_n 3, 1) := by decide +kernel
theorem dX12_array_219 : decode cX12_array 219 = .ok (.istore 7, 2) := by decide +kernel
theorem dX12_array_221 : decode cX12_array 221 = .ok (.iconst 0, 1) := by decide +kernel
theorem dX12_array_222 : decode cX12_array 222 = .ok (.istore 8, 2) := by decide +kernel
theorem dX12_array_224 : decode cX12_array 224 = .ok (.iload 8, 2) := by decide +kernel
theorem dX12_array_226 : decode cX12_array 226 = .ok (.iload 7, 2) := by decide +kernel
theorem dX12_array_228 : decode cX12_array 228 = .ok (.if_icmp .ge 22, 3) := by decide +kernel
theorem dX12_array_231 : decode cX12_array 231 = .ok (.aload_n 0, 1) := by decide +kernel
theorem dX12_array_232 : decode cX12_array 232 = .ok (.getfield 101, 3) := by decide +kernel
theorem dX12_array_235 : decode cX12_array 235 = .ok (.aload_n 0, 1) := by decide +kernel
theorem dX12_array_236 : decode cX12_array 236 = .ok (.getfield 291, 3) := by decide +kernel
theorem dX12_array_239 : decode cX12_array 239 = .ok (.iload 8, 2) := by decide +kernel
theorem dX12_array_241 : decode cX12_array 241 = .ok (.iadd, 1) := by decide +kernel
theorem dX12_array_242 : decode cX12_array 242 = .ok (.iconst 0, 1) := by decide +kernel
theorem dX12_array_243 : decode cX12_array 243 = .ok (.iastore, 1) := by decide +kernel
theorem dX12_array_244 : decode cX12_array 244 = .ok (.iinc 8 1, 3) := by decide +kernel
theorem dX12_array_247 : decode cX12_array 247 = .ok (.goto (-23), 3) := by decide +kernel
theorem dX12_array_250 : decode cX12_array 250 = .ok (.aload_n 0, 1) := by decide +kernel
theorem dX12_array_251 : decode cX12_array 251 = .ok (.dup, 1) := by decide +kernel
theorem dX12_array_252 : decode cX12_array 252 = .ok (.getfield 291, 3) := by decide +kernel
theorem dX12_array_255 : decode cX12_array 255 = .ok (.iload 7, 2) := by decide +kernel
theorem dX12_array_257 : decode cX12_array 257 = .ok (.iadd, 1) := by decide +kernel
theorem dX12_array_258 : decode cX12_array 258 = .ok (.putfield 291, 3) := by decide +kernel
theorem dX12_array_261 : decode cX12_array 261 = .ok (.aload_n 0, 1) := by decide +kernel
theorem dX12_array_262 : decode cX12_array 262 = .ok (.bipush 32, 2) := by decide +kernel
theorem dX12_array_264 : decode cX12_array 264 = .ok (.invokevirtual 257, 3) := by decide +kernel
theorem dX12_array_267 : decode cX12_array 267 = .ok (.ifCond .eq 176, 3) := by decide +kernel
theorem dX12_array_270 : decode cX12_array 270 = .ok (.aload_n 0, 1) := by decide +kernel
theorem dX12_array_271 : decode cX12_array 271 = .ok (.dup, 1) := by decide +kernel
theorem dX12_array_272 : decode cX12_array 272 = .ok (.getfield 233, 3) := by decide +kernel
theorem dX12_array_275 : decode cX12_array 275 = .ok (.iconst 1, 1) := by decide +kernel
theorem dX12_array_276 : decode cX12_array 276 = .ok (.iadd, 1) := by decide +kernel
theorem dX12_array_277 : decode cX12_array 277 = .ok (.putfield 233, 3) := by decide +kernel
theorem dX12_array_280 : decode cX12_array 280 = .ok (.aload_n 0, 1) := by decide +kernel
theorem dX12_array_281 : decode cX12_array 281 = .ok (.bipush 26, 2) := by decide +kernel
theorem dX12_array_283 : decode cX12_array 283 = .ok (.invokevirtual 356, 3) := by decide +kernel
theorem dX12_array_286 : decode cX12_array 286 = .ok (.ifCond .ne 5, 3) := by decide +kernel
theorem dX12_array_289 : decode cX12_array 289 = .ok (.iconst 0, 1) := by decide +kernel
theorem dX12_array_290 : decode cX12_array 290 = .ok (.ireturn, 1) := by decide +kernel
theorem dX12_array_291 : decode cX12_array 291 = .ok (.iconst 0, 1) := by decide +kernel
theorem dX12_array_292 : decode cX12_array 292 = .ok (.istore 8, 2) := by decide +kernel
theorem dX12_array_294 : decode cX12_array 294 = .ok (.iconst 1, 1) := by decide +kernel
theorem dX12_array_295 : decode cX12_array 295 = .ok (.istore 9, 2) := by decide +kernel
theorem dX12_array_297 : decode cX12_array 297 = .ok (.iload 9, 2) := by decide +kernel
theorem dX12_array_299 : decode cX12_array 299 = .ok (.ifCond .eq 133, 3) := by decide +kernel
theorem dX12_array_302 : decode cX12_array 302 = .ok (.aload_n 0, 1) := by decide +kernel
theorem dX12_array_303 : decode cX12_array 303 = .ok (.getfield 230, 3) := by decide +kernel
theorem dX12_array_306 : decode cX12_array 306 = .ok (.ifCond .ne 126, 3) := by decide +kernel
theorem dX12_array_309 : decode cX12_array 309 = .ok (.aload_n 0, 1) := by decide +kernel
theorem dX12_array_310 : decode cX12_array 310 = .ok (.getfield 22, 3) := by decide +kernel
theorem dX12_array_313 : decode cX12_array 313 = .ok (.aload_n 0, 1) := by decide +kernel
theorem dX12_array_314 : decode cX12_array 314 = .ok (.getfield 233, 3) := by decide +kernel
theorem dX12_array_317 : decode cX12_array 317 = .ok (.iaload, 1) := by decide +kernel
theorem dX12_array_318 : decode cX12_array 318 = .ok (.istore 10, 2) := by decide +kernel
theorem dX12_array_320 : decode cX12_array 320 = .ok (.aload_n 0, 1) := by decide +kernel
theorem dX12_array_321 : decode cX12_array 321 = .ok (.invokevirtual 330, 3) := by decide +kernel
theorem dX12_array_324 : decode cX12_array 324 = .ok (.istore 11, 2) := by decide +kernel
theorem dX12_array_326 : decode cX12_array 326 = .ok (.iload_n 3, 1) := by decide +kernel
theorem dX12_array_327 : decode cX12_array 327 = .ok (.iconst (-1), 1) := by decide +kernel
theorem dX12_array_328 : decode cX12_array 328 = .ok (.if_icmp .eq 17, 3) := by decide +kernel
theorem dX12_array_331 : decode cX12_array 331 = .ok (.iload 8, 2) := by decide +kernel
theorem dX12_array_333 : decode cX12_array 333 = .ok (.iload_n 3, 1) := by decide +kernel
theorem dX12_array_334 : decode cX12_array 334 = .ok (.if_icmp .ne 11, 3) := by decide +kernel
theorem dX12_array_337 : decode cX12_array 337 = .ok (.aload_n 0, 1) := by decide +kernel
theorem dX12_array_338 : decode cX12_array 338 = .ok (.bipush 10, 2) := by decide +kernel
theorem dX12_array_340 : decode cX12_array 340 = .ok (.iload 10, 2) := by decide +kernel
theorem dX12_array_342 : decode cX12_array 342 = .ok (.invokevirtual 352, 3) := by decide +kernel
theorem dX12_array_345 : decode cX12_array 345 = .ok (.aload_n 0, 1) := by decide +kernel
theorem dX12_array_346 : decode cX12_array 346 = .ok (.getfield 245, 3) := by decide +kernel
theorem dX12_array_349 : decode cX12_array 349 = .ok (.ifCond .le 35, 3) := by decide +kernel
theorem dX12_array_352 : decode cX12_array 352 = .ok (.iload 8, 2) := by decide +kernel
theorem dX12_array_354 : decode cX12_array 354 = .ok (.iload 7, 2) := by decide +kernel
theorem dX12_array_356 : decode cX12_array 356 = .ok (.if_icmp .ge 28, 3) := by decide +kernel
theorem dX12_array_359 : decode cX12_array 359 = .ok (.aload_n 0, 1) := by decide +kernel
theorem dX12_array_360 : decode cX12_array 360 = .ok (.getfield 101, 3) := by decide +kernel
theorem dX12_array_363 : decode cX12_array 363 = .ok (.iload 4, 2) := by decide +kernel
theorem dX12_array_365 : decode cX12_array 365 = .ok (.iload 8, 2) := by decide +kernel
theorem dX12_array_367 : decode cX12_array 367 = .ok (.iadd, 1) := by decide +kernel
theorem dX12_array_368 : decode cX12_array 368 = .ok (.iload_n 2, 1) := by decide +kernel
theorem dX12_array_369 : decode cX12_array 369 = .ok (.ifCond .eq 12, 3) := by decide +kernel
theorem dX12_array_372 : decode cX12_array 372 = .ok (.iload 11, 2) := by decide +kernel
theorem dX12_array_374 : decode cX12_array 374 = .ok (.sipush 255, 3) := by decide +kernel
theorem dX12_array_377 : decode cX12_array 377 = .ok (.iand, 1) := by decide +kernel
theorem dX12_array_378 : decode cX12_array 378 = .ok (.goto 5, 3) := by decide +kernel
theorem dX12_array_381 : decode cX12_array 381 = .ok (.iload 11, 2) := by decide +kernel
theorem dX12_array_383 : decode cX12_array 383 = .ok (.iastore, 1) := by decide +kernel
theorem dX12_array_384 : decode cX12_array 384 = .ok (.iinc 8 1, 3) := by decide +kernel
theorem dX12_array_387 : decode cX12_array 387 = .ok (.aload_n 0, 1) := by decide +kernel
theorem dX12_array_388 : decode cX12_array 388 = .ok (.getfield 230, 3) := by decide +kernel
theorem dX12_array_391 : decode cX12_array 391 = .ok (.ifCond .ne 16, 3) := by decide +kernel
theorem dX12_array_394 : decode cX12_array 394 = .ok (.aload_n 0, 1) := by decide +kernel
theorem dX12_array_395 : decode cX12_array 395 = .ok (.bipush 28, 2) := by decide +kernel
theorem dX12_array_397 : decode cX12_array 397 = .ok (.invokevirtual 257, 3) := by decide +kernel
theorem dX12_array_400 : decode cX12_array 400 = .ok (.ifCond .eq 7, 3) := by decide +kernel
theorem dX12_array_403 : decode cX12_array 403 = .ok (.iconst 1, 1) := by decide +kernel
theorem dX12_array_404 : decode cX12_array 404 = .ok (.goto 4, 3) := by decide +kernel
theorem dX12_array_407 : decode cX12_array 407 = .ok (.iconst 0, 1) := by decide +kernel
theorem dX12_array_408 : decode cX12_array 408 = .ok (.istore 9, 2) := by decide +kernel
theorem dX12_array_410 : decode cX12_array 410 = .ok (.aload_n 0, 1) := by decide +kernel
theorem dX12_array_411 : decode cX12_array 411 = .ok (.dup, 1) := by decide +kernel
theorem dX12_array_412 : decode cX12_array 412 = .ok (.getfield 233, 3) := by decide +kernel
theorem dX12_array_415 : decode cX12_array 415 = .ok (.iload 9, 2) := by decide +kernel
theorem dX12_array_417 : decode cX12_array 417 = .ok (.ifCond .eq 7, 3) := by decide +kernel
theorem dX12_array_420 : decode cX12_array 420 = .ok (.iconst 1, 1) := by decide +kernel
theorem dX12_array_421 : decode cX12_array 421 = .ok (.goto 4, 3) := by decide +kernel
theorem dX12_array_424 : decode cX12_array 424 = .ok (.iconst 0, 1) := by decide +kernel
theorem dX12_array_425 : decode cX12_array 425 = .ok (.iadd, 1) := by decide +kernel
theorem dX12_array_426 : decode cX12_array 426 = .ok (.putfield 233, 3) := by decide +kernel
theorem dX12_array_429 : decode cX12_array 429 = .ok (.goto (-132), 3) := by decide +kernel
theorem dX12_array_432 : decode cX12_array 432 = .ok (.aload_n 0, 1) := by decide +kernel
theorem dX12_array_433 : decode cX12_array 433 = .ok (.bipush 27, 2) := by decide +kernel
theorem dX12_array_435 : decode cX12_array 435 = .ok (.invokevirtual 362, 3) := by decide +kernel
theorem dX12_array_438 : decode cX12_array 438 = .ok (.ifCond .ne 5, 3) := by decide +kernel
theorem dX12_array_441 : decode cX12_array 441 = .ok (.iconst 0, 1) := by decide +kernel
theorem dX12_array_442 : decode cX12_array 442 = .ok (.ireturn, 1) := by decide +kernel
theorem dX12_array_443 : decode cX12_array 443 = .ok (.aload_n 0, 1) := by decide +kernel
theorem dX12_array_444 : decode cX12_array 444 = .ok (.iload_n 1, 1) := by decide +kernel
theorem dX12_array_445 : decode cX12_array 445 = .ok (.iconst 2, 1) := by decide +kernel
theorem dX12_array_446 : decode cX12_array 446 = .ok (.iload_n 2, 1) := by decide +kernel
theorem dX12_array_447 : decode cX12_array 447 = .ok (.iload 4, 2) := by decide +kernel
theorem dX12_array_449 : decode cX12_array 449 = .ok (.iload_n 3, 1) := by decide +kernel
theorem dX12_array_450 : decode cX12_array 450 = .ok (.iconst (-1), 1) := by decide +kernel
theorem dX12_array_451 : decode cX12_array 451 = .ok (.if_icmp .ne 7, 3) := by decide +kernel
theorem dX12_array_454 : decode cX12_array 454 = .ok (.iconst 1, 1) := by decide +kernel
theorem dX12_array_455 : decode cX12_array 455 = .ok (.goto 4, 3) := by decide +kernel
theorem dX12_array_458 : decode cX12_array 458 = .ok (.iload_n 3, 1) := by decide +kernel
theorem dX12_array_459 : decode cX12_array 459 = .ok (.iconst 0, 1) := by decide +kernel
theorem dX12_array_460 : decode cX12_array 460 = .ok (.invokevirtual 338, 3) := by decide +kernel
theorem dX12_array_463 : decode cX12_array 463 = .ok (.iconst 1, 1) := by decide +kernel
theorem dX12_array_464 : decode cX12_array 464 = .ok (.ireturn, 1) := by decide +kernel
theorem dX12_sizeHere_0 : decode cX12_sizeHere 0 = .ok (.aload_n 0, 1) := by decide +kernel
theorem dX12_sizeHere_1 : decode cX12_sizeHere 1 = .ok (.getfield 22, 3) := by decide +kernel
theorem dX12_sizeHere_4 : decode cX12_sizeHere 4 = .ok (.aload_n 0, 1) := by decide +kernel
theorem dX12_sizeHere_5 : decode cX12_sizeHere 5 = .ok (.getfield 233, 3) := by decide +kernel
theorem dX12_sizeHere_8 : decode cX12_sizeHere 8 = .ok (.iaload, 1) := by decide +kernel
theorem dX12_sizeHere_9 : decode cX12_sizeHere 9 = .ok (.istore_n 1, 1) := by decide +kernel
theorem dX12_sizeHere_10 : decode cX12_sizeHere 10 = .ok (.aload_n 0, 1) := by decide +kernel
theorem dX12_sizeHere_11 : decode cX12_sizeHere 11 = .ok (.invokevirtual 330, 3) := by decide +kernel
theorem dX12_sizeHere_14 : decode cX12_sizeHere 14 = .ok (.istore_n 2, 1) := by decide +kernel
theorem dX12_sizeHere_15 : decode cX12_sizeHere 15 = .ok (.aload_n 0, 1) := by decide +kernel
theorem dX12_sizeHere_16 : decode cX12_sizeHere 16 = .ok (.getfield 230, 3) := by decide +kernel
theorem dX12_sizeHere_19 : decode cX12_sizeHere 19 = .ok (.ifCond .gt 10, 3) := by decide +kernel
theorem dX12_sizeHere_22 : decode cX12_sizeHere 22 = .ok (.aload_n 0, 1) := by decide +kernel
theorem dX12_sizeHere_23 : decode cX12_sizeHere 23 = .ok (.getfield 245, 3) := by decide +kernel
theorem dX12_sizeHere_26 : decode cX12_sizeHere 26 = .ok (.ifCond .ne 5, 3) := by decide +kernel
theorem dX12_sizeHere_29 : decode cX12_sizeHere 29 = .ok (.iconst 1, 1) := by decide +kernel
theorem dX12_sizeHere_30 : decode cX12_sizeHere 30 = .ok (.ireturn, 1) := by decide +kernel
theorem dX12_sizeHere_31 : decode cX12_sizeHere 31 = .ok (.aload_n 0, 1) := by decide +kernel
theorem dX12_sizeHere_32 : decode cX12_sizeHere 32 = .ok (.getfield 345, 3) := by decide +kernel
theorem dX12_sizeHere_35 : decode cX12_sizeHere 35 = .ok (.ifCond .eq 5, 3) := by decide +kernel
theorem dX12_sizeHere_38 : decode cX12_sizeHere 38 = .ok (.iconst (-1), 1) := by decide +kernel
theorem dX12_sizeHere_39 : decode cX12_sizeHere 39 = .ok (.ireturn, 1) := by decide +kernel
theorem dX12_sizeHere_40 : decode cX12_sizeHere 40 = .ok (.iload_n 2, 1) := by decide +kernel
theorem dX12_sizeHere_41 : decode cX12_sizeHere 41 = .ok (.iconst 1, 1) := by decide +kernel
theorem dX12_sizeHere_42 : decode cX12_sizeHere 42 = .ok (.if_icmp .lt 12, 3) := by decide +kernel
theorem dX12_sizeHere_45 : decode cX12_sizeHere 45 = .ok (.iload_n 2, 1) := by decide +kernel
theorem dX12_sizeHere_46 : decode cX12_sizeHere 46 = .ok (.sipush 500, 3) := by decide +kernel
theorem dX12_sizeHere_49 : decode cX12_sizeHere 49 = .ok (.if_icmp .gt 5, 3) := by decide +kernel
theorem dX12_sizeHere_52 : decode cX12_sizeHere 52 = .ok (.iload_n 2, 1) := by decide +kernel
theorem dX12_sizeHere_53 : decode cX12_sizeHere 53 = .ok (.ireturn, 1) := by decide +kernel
theorem dX12_sizeHere_54 : decode cX12_sizeHere 54 = .ok (.aload_n 0, 1) := by decide +kernel
theorem dX12_sizeHere_55 : decode cX12_sizeHere 55 = .ok (.bipush 10, 2) := by decide +kernel
theorem dX12_sizeHere_57 : decode cX12_sizeHere 57 = .ok (.iload_n 1, 1) := by decide +kernel
theorem dX12_sizeHere_58 : decode cX12_sizeHere 58 = .ok (.invokevirtual 352, 3) := by decide +kernel
theorem dX12_sizeHere_61 : decode cX12_sizeHere 61 = .ok (.iconst (-1), 1) := by decide +kernel
theorem dX12_sizeHere_62 : decode cX12_sizeHere 62 = .ok (.ireturn, 1) := by decide +kernel
theorem dX12_value_0 : decode cX12_value 0 = .ok (.aload_n 0, 1) := by decide +kernel
theorem dX12_value_1 : decode cX12_value 1 = .ok (.getfield 365, 3) := by decide +kernel
theorem dX12_value_4 : decode cX12_value 4 = .ok (.istore_n 1, 1) := by decide +kernel
theorem dX12_value_5 : decode cX12_value 5 = .ok (.aload_n 0, 1) := by decide +kernel
theorem dX12_value_6 : decode cX12_value 6 = .ok (.iconst 1, 1) := by decide +kernel
theorem dX12_value_7 : decode cX12_value 7 = .ok (.putfield 365, 3) := by decide +kernel
theorem dX12_value_10 : decode cX12_value 10 = .ok (.aload_n 0, 1) := by decide +kernel
theorem dX12_value_11 : decode cX12_value 11 = .ok (.iconst 0, 1) := by decide +kernel
theorem dX12_value_12 : decode cX12_value 12 = .ok (.putfield 345, 3) := by decide +kernel
theorem dX12_value_15 : decode cX12_value 15 = .ok (.aload_n 0, 1) := by decide +kernel
theorem dX12_value_16 : decode cX12_value 16 = .ok (.getfield 276, 3) := by decide +kernel
theorem dX12_value_19 : decode cX12_value 19 = .ok (.istore_n 2, 1) := by decide +kernel
theorem dX12_value_20 : decode cX12_value 20 = .ok (.aload_n 0, 1) := by decide +kernel
theorem dX12_value_21 : decode cX12_value 21 = .ok (.invokevirtual 368, 3) := by decide +kernel
theorem dX12_value_24 : decode cX12_value 24 = .ok (.pop, 1) := by decide +kernel
theorem dX12_value_25 : decode cX12_value 25 = .ok (.aload_n 0, 1) := by decide +kernel
theorem dX12_value_26 : decode cX12_value 26 = .ok (.iload_n 1, 1) := by decide +kernel
theorem dX12_value_27 : decode cX12_value 27 = .ok (.putfield 365, 3) := by decide +kernel
theorem dX12_value_30 : decode cX12_value 30 = .ok (.aload_n 0, 1) := by decide +kernel
theorem dX12_value_31 : decode cX12_value 31 = .ok (.getfield 230, 3) := by decide +kernel
theorem dX12_value_34 : decode cX12_value 34 = .ok (.ifCond .gt 17, 3) := by decide +kernel
theorem dX12_value_37 : decode cX12_value 37 = .ok (.aload_n 0, 1) := by decide +kernel
theorem dX12_value_38 : decode cX12_value 38 = .ok (.getfield 245, 3) := by decide +kernel
theorem dX12_value_41 : decode cX12_value 41 = .ok (.ifCond .eq 10, 3) := by decide +kernel
theorem dX12_value_44 : decode cX12_value 44 = .ok (.aload_n 0, 1) := by decide +kernel
theorem dX12_value_45 : decode cX12_value 45 = .ok (.getfield 345, 3) := by decide +kernel
theorem dX12_value_48 : decode cX12_value 48 = .ok (.ifCond .eq 7, 3) := by decide +kernel
theorem dX12_value_51 : decode cX12_value 51 = .ok (.iconst 0, 1) := by decide +kernel
theorem dX12_value_52 : decode cX12_value 52 = .ok (.goto 8, 3) := by decide +kernel
theorem dX12_value_55 : decode cX12_value 55 = .ok (.aload_n 0, 1) := by decide +kernel
theorem dX12_value_56 : decode cX12_value 56 = .ok (.iload_n 2, 1) := by decide +kernel
theorem dX12_value_57 : decode cX12_value 57 = .ok (.invokevirtual 371, 3) := by decide +kernel
theorem dX12_value_60 : decode cX12_value 60 = .ok (.istore_n 3, 1) := by decide +kernel
theorem dX12_value_61 : decode cX12_value 61 = .ok (.aload_n 0, 1) := by decide +kernel
theorem dX12_value_62 : decode cX12_value 62 = .ok (.iload_n 2, 1) := by decide +kernel
theorem dX12_value_63 : decode cX12_value 63 = .ok (.putfield 276, 3) := by decide +kernel
theorem dX12_value_66 : decode cX12_value 66 = .ok (.iload_n 3, 1) := by decide +kernel
theorem dX12_value_67 : decode cX12_value 67 = .ok (.ireturn, 1) := by decide +kernel
theorem dX12_twice_0 : decode cX12_twice 0 = .ok (.aload_n 0, 1) := by decide +kernel
theorem dX12_twice_1 : decode cX12_twice 1 = .ok (.getfield 245, 3) := by decide +kernel
theorem dX12_twice_4 : decode cX12_twice 4 = .ok (.ifCond .ne 4, 3) := by decide +kernel
theorem dX12_twice_7 : decode cX12_twice 7 = .ok (.return_, 1) := by decide +kernel
theorem dX12_twice_8 : decode cX12_twice 8 = .ok (.iconst 0, 1) := by decide +kernel
theorem dX12_twice_9 : decode cX12_twice 9 = .ok (.istore_n 2, 1) := by decide +kernel
theorem dX12_twice_10 : decode cX12_twice 10 = .ok (.iconst 0, 1) := by decide +kernel
theorem dX12_twice_11 : decode cX12_twice 11 = .ok (.istore_n 3, 1) := by decide +kernel
theorem dX12_twice_12 : decode cX12_twice 12 = .ok (.iload_n 3, 1) := by decide +kernel
theorem dX12_twice_13 : decode cX12_twice 13 = .ok (.aload_n 0, 1) := by decide +kernel
theorem dX12_twice_14 : decode cX12_twice 14 = .ok (.getfield 279, 3) := by decide +kernel
theorem dX12_twice_17 : decode cX12_twice 17 = .ok (.if_icmp .ge 47, 3) := by decide +kernel
theorem dX12_twice_20 : decode cX12_twice 20 = .ok (.iload_n 2, 1) := by decide +kernel
theorem dX12_twice_21 : decode cX12_twice 21 = .ok (.ifCond .ne 31, 3) := by decide +kernel
theorem dX12_twice_24 : decode cX12_twice 24 = .ok (.aload_n 0, 1) := by decide +kernel
theorem dX12_twice_25 : decode cX12_twice 25 = .ok (.getfield 46, 3) := by decide +kernel
theorem dX12_twice_28 : decode cX12_twice 28 = .ok (.iload_n 3, 1) := by decide +kernel
theorem dX12_twice_29 : decode cX12_twice 29 = .ok (.iaload, 1) := by decide +kernel
theorem dX12_twice_30 : decode cX12_twice 30 = .ok (.aload_n 0, 1) := by decide +kernel
theorem dX12_twice_31 : decode cX12_twice 31 = .ok (.getfield 282, 3) := by decide +kernel
theorem dX12_twice_34 : decode cX12_twice 34 = .ok (.if_icmp .ne 22, 3) := by decide +kernel
theorem dX12_twice_37 : decode cX12_twice 37 = .ok (.aload_n 0, 1) := by decide +kernel
theorem dX12_twice_38 : decode cX12_twice 38 = .ok (.getfield 37, 3) := by decide +kernel
theorem dX12_twice_41 : decode cX12_twice 41 = .ok (.iload_n 3, 1) := by decide +kernel
theorem dX12_twice_42 : decode cX12_twice 42 = .ok (.iaload, 1) := by decide +kernel
theorem dX12_twice_43 : decode cX12_twice 43 = .ok (.aload_n 0, 1) := by decide +kernel
theorem dX12_twice_44 : decode cX12_twice 44 = .ok (.getfield 19, 3) := by decide +kernel
theorem dX12_twice_47 : decode cX12_twice 47 = .ok (.iload_n 1, 1) := by decide +kernel
theorem dX12_twice_48 : decode cX12_twice 48 = .ok (.iaload, 1) := by decide +kernel
theorem dX12_twice_49 : decode cX12_twice 49 = .ok (.if_icmp .ne 7, 3) := by decide +kernel
theorem dX12_twice_52 : decode cX12_twice 52 = .ok (.iconst 1, 1) := by decide +kernel
theorem dX12_twice_53 : decode cX12_twice 53 = .ok (.goto 4, 3) := by decide +kernel
theorem dX12_twice_56 : decode cX12_twice 56 = .ok (.iconst 0, 1) := by decide +kernel
theorem dX12_twice_57 : decode cX12_twice 57 = .ok (.istore_n 2, 1) := by decide +kernel
theorem dX12_twice_58 : decode cX12_twice 58 = .ok (.iinc 3 1, 3) := by decide +kernel
theorem dX12_twice_61 : decode cX12_twice 61 = .ok (.goto (-49), 3) := by decide +kernel
theorem dX12_twice_64 : decode cX12_twice 64 = .ok (.iconst 0, 1) := by decide +kernel
theorem dX12_twice_65 : decode cX12_twice 65 = .ok (.istore_n 3, 1) := by decide +kernel
theorem dX12_twice_66 : decode cX12_twice 66 = .ok (.iload_n 3, 1) := by decide +kernel
theorem dX12_twice_67 : decode cX12_twice 67 = .ok (.aload_n 0, 1) := by decide +kernel
theorem dX12_twice_68 : decode cX12_twice 68 = .ok (.getfield 297, 3) := by decide +kernel
theorem dX12_twice_71 : decode cX12_twice 71 = .ok (.if_icmp .ge 56, 3) := by decide +kernel
theorem dX12_twice_74 : decode cX12_twice 74 = .ok (.aload_n 0, 1) := by decide +kernel
theorem dX12_twice_75 : decode cX12_twice 75 = .ok (.getfield 282, 3) := by decide +kernel
theorem dX12_twice_78 : decode cX12_twice 78 = .ok (.ifCond .ne 49, 3) := by decide +kernel
theorem dX12_twice_81 : decode cX12_twice 81 = .ok (.iload_n 2, 1) := by decide +kernel
theorem dX12_twice_82 : decode cX12_twice 82 = .ok (.ifCond .ne 33, 3) := by decide +kernel
theorem dX12_twice_85 : decode cX12_twice 85 = .ok (.aload_n 0, 1) := by decide +kernel
theorem dX12_twice_86 : decode cX12_twice 86 = .ok (.getfield 62, 3) := by decide +kernel
theorem dX12_twice_89 : decode cX12_twice 89 = .ok (.iload_n 3, 1) := by decide +kernel
theorem dX12_twice_90 : decode cX12_twice 90 = .ok (.iaload, 1) := by decide +kernel
theorem dX12_twice_91 : decode cX12_twice 91 = .ok (.aload_n 0, 1) := by decide +kernel
theorem dX12_twice_92 : decode cX12_twice 92 = .ok (.getfield 19, 3) := by decide +kernel
theorem dX12_twice_95 : decode cX12_twice 95 = .ok (.iload_n 1, 1) := by decide +kernel
theorem dX12_twice_96 : decode cX12_twice 96 = .ok (.iaload, 1) := by decide +kernel
theorem dX12_twice_97 : decode cX12_twice 97 = .ok (.if_icmp .ne 22, 3) := by decide +kernel
theorem dX12_twice_100 : decode cX12_twice 100 = .ok (.aload_n 0, 1) := by decide +kernel
theorem dX12_twice_101 : decode cX12_twice 101 = .ok (.getfield 65, 3) := by decide +kernel
theorem dX12_twice_104 : decode cX12_twice 104 = .ok (.iload_n 3, 1) := by decide +kernel
theorem dX12_twice_105 : decode cX12_twice 105 = .ok (.iaload, 1) := by decide +kernel
theorem dX12_twice_106 : decode cX12_twice 106 = .ok (.aload_n 0, 1) := by decide +kernel
theorem dX12_twice_107 : decode cX12_twice 107 = .ok (.getfield 22, 3) := by decide +kernel
theorem dX12_twice_110 : decode cX12_twice 110 = .ok (.iload_n 1, 1) := by decide +kernel
theorem dX12_twice_111 : decode cX12_twice 111 = .ok (.iaload, 1) := by decide +kernel
theorem dX12_twice_112 : decode cX12_twice 112 = .ok (.if_icmp .ge 7, 3) := by decide +kernel
theorem dX12_twice_115 : decode cX12_twice 115 = .ok (.iconst 1, 1) := by decide +kernel
theorem dX12_twice_116 : decode cX12_twice 116 = .ok (.goto 4, 3) := by decide +kernel
theorem dX12_twice_119 : decode cX12_twice 119 = .ok (.iconst 0, 1) := by decide +kernel
theorem dX12_twice_120 : decode cX12_twice 120 = .ok (.istore_n 2, 1) := by decide +kernel
theorem dX12_twice_121 : decode cX12_twice 121 = .ok (.iinc 3 1, 3) := by decide +kernel
theorem dX12_twice_124 : decode cX12_twice 124 = .ok (.goto (-58), 3) := by decide +kernel
theorem dX12_twice_127 : decode cX12_twice 127 = .ok (.iload_n 2, 1) := by decide +kernel
theorem dX12_twice_128 : decode cX12_twice 128 = .ok (.ifCond .eq 14, 3) := by decide +kernel
theorem dX12_twice_131 : decode cX12_twice 131 = .ok (.aload_n 0, 1) := by decide +kernel
theorem dX12_twice_132 : decode cX12_twice 132 = .ok (.iconst 5, 1) := by decide +kernel
theorem dX12_twice_133 : decode cX12_twice 133 = .ok (.aload_n 0, 1) := by decide +kernel
theorem dX12_twice_134 : decode cX12_twice 134 = .ok (.getfield 22, 3) := by decide +kernel
theorem dX12_twice_137 : decode cX12_twice 137 = .ok (.iload_n 1, 1) := by decide +kernel
theorem dX12_twice_138 : decode cX12_twice 138 = .ok (.iaload, 1) := by decide +kernel
theorem dX12_twice_139 : decode cX12_twice 139 = .ok (.invokevirtual 352, 3) := by decide +kernel
theorem dX12_twice_142 : decode cX12_twice 142 = .ok (.return_, 1) := by decide +kernel
theorem dX12_declare_0 : decode cX12_declare 0 = .ok (.aload_n 0, 1) := by decide +kernel
theorem dX12_declare_1 : decode cX12_declare 1 = .ok (.getfield 245, 3) := by decide +kernel
theorem dX12_declare_4 : decode cX12_declare 4 = .ok (.ifCond .ne 4, 3) := by decide +kernel
theorem dX12_declare_7 : decode cX12_declare 7 = .ok (.return_, 1) := by decide +kernel
theorem dX12_declare_8 : decode cX12_declare 8 = .ok (.aload_n 0, 1) := by decide +kernel
theorem dX12_declare_9 : decode cX12_declare 9 = .ok (.getfield 37, 3) := by decide +kernel
theorem dX12_declare_12 : decode cX12_declare 12 = .ok (.aload_n 0, 1) := by decide +kernel
theorem dX12_declare_13 : decode cX12_declare 13 = .ok (.getfield 279, 3) := by decide +kernel
theorem dX12_declare_16 : decode cX12_declare 16 = .ok (.aload_n 0, 1) := by decide +kernel
theorem dX12_declare_17 : decode cX12_declare 17 = .ok (.getfield 19, 3) := by decide +kernel
theorem dX12_declare_20 : decode cX12_declare 20 = .ok (.iload_n 1, 1) := by decide +kernel
theorem dX12_declare_21 : decode cX12_declare 21 = .ok (.iaload, 1) := by decide +kernel
theorem dX12_declare_22 : decode cX12_declare 22 = .ok (.iastore, 1) := by decide +kernel
theorem dX12_declare_23 : decode cX12_declare 23 = .ok (.aload_n 0, 1) := by decide +kernel
theorem dX12_declare_24 : decode cX12_declare 24 = .ok (.getfield 40, 3) := by decide +kernel
theorem dX12_declare_27 : decode cX12_declare 27 = .ok (.aload_n 0, 1) := by decide +kernel
theorem dX12_declare_28 : decode cX12_declare 28 = .ok (.getfield 279, 3) := by decide +kernel
theorem dX12_declare_31 : decode cX12_declare 31 = .ok (.iload_n 2, 1) := by decide +kernel
theorem dX12_declare_32 : decode cX12_declare 32 = .ok (.iastore, 1) := by decide +kernel
theorem dX12_declare_33 : decode cX12_declare 33 = .ok (.aload_n 0, 1) := by decide +kernel
theorem dX12_declare_34 : decode cX12_declare 34 = .ok (.getfield 43, 3) := by decide +kernel
theorem dX12_declare_37 : decode cX12_declare 37 = .ok (.aload_n 0, 1) := by decide +kernel
theorem dX12_declare_38 : decode cX12_declare 38 = .ok (.getfield 279, 3) := by decide +kernel
theorem dX12_declare_41 : decode cX12_declare 41 = .ok (.aload_n 0, 1) := by decide +kernel
theorem dX12_declare_42 : decode cX12_declare 42 = .ok (.getfield 22, 3) := by decide +kernel
theorem dX12_declare_45 : decode cX12_declare 45 = .ok (.iload_n 1, 1) := by decide +kernel
theorem dX12_declare_46 : decode cX12_declare 46 = .ok (.iaload, 1) := by decide +kernel
theorem dX12_declare_47 : decode cX12_declare 47 = .ok (.iastore, 1) := by decide +kernel
theorem dX12_declare_48 : decode cX12_declare 48 = .ok (.aload_n 0, 1) := by decide +kernel
theorem dX12_declare_49 : decode cX12_declare 49 = .ok (.getfield 46, 3) := by decide +kernel
theorem dX12_declare_52 : decode cX12_declare 52 = .ok (.aload_n 0, 1) := by decide +kernel
theorem dX12_declare_53 : decode cX12_declare 53 = .ok (.getfield 279, 3) := by decide +kernel
theorem dX12_declare_56 : decode cX12_declare 56 = .ok (.aload_n 0, 1) := by decide +kernel
theorem dX12_declare_57 : decode cX12_declare 57 = .ok (.getfield 282, 3) := by decide +kernel
theorem dX12_declare_60 : decode cX12_declare 60 = .ok (.iastore, 1) := by decide +kernel
theorem dX12_declare_61 : decode cX12_declare 61 = .ok (.aload_n 0, 1) := by decide +kernel
theorem dX12_declare_62 : decode cX12_declare 62 = .ok (.getfield 55, 3) := by decide +kernel
theorem dX12_declare_65 : decode cX12_declare 65 = .ok (.aload_n 0, 1) := by decide +kernel
theorem dX12_declare_66 : decode cX12_declare 66 = .ok (.getfield 279, 3) := by decide +kernel
theorem dX12_declare_69 : decode cX12_declare 69 = .ok (.iload_n 3, 1) := by decide +kernel
theorem dX12_declare_70 : decode cX12_declare 70 = .ok (.bastore, 1) := by decide +kernel
theorem dX12_declare_71 : decode cX12_declare 71 = .ok (.aload_n 0, 1) := by decide +kernel
theorem dX12_declare_72 : decode cX12_declare 72 = .ok (.getfield 49, 3) := by decide +kernel
theorem dX12_declare_75 : decode cX12_declare 75 = .ok (.aload_n 0, 1) := by decide +kernel
theorem dX12_declare_76 : decode cX12_declare 76 = .ok (.getfield 279, 3) := by decide +kernel
theorem dX12_declare_79 : decode cX12_declare 79 = .ok (.iload 4, 2) := by decide +kernel
theorem dX12_declare_81 : decode cX12_declare 81 = .ok (.iastore, 1) := by decide +kernel
theorem dX12_declare_82 : decode cX12_declare 82 = .ok (.aload_n 0, 1) := by decide +kernel
theorem dX12_declare_83 : decode cX12_declare 83 = .ok (.getfield 52, 3) := by decide +kernel
theorem dX12_declare_86 : decode cX12_declare 86 = .ok (.aload_n 0, 1) := by decide +kernel
theorem dX12_declare_87 : decode cX12_declare 87 = .ok (.getfield 279, 3) := by decide +kernel
theorem dX12_declare_90 : decode cX12_declare 90 = .ok (.iload 5, 2) := by decide +kernel
theorem dX12_declare_92 : decode cX12_declare 92 = .ok (.iastore, 1) := by decide +kernel
theorem dX12_declare_93 : decode cX12_declare 93 = .ok (.aload_n 0, 1) := by decide +kernel
theorem dX12_declare_94 : decode cX12_declare 94 = .ok (.getfield 59, 3) := by decide +kernel
theorem dX12_declare_97 : decode cX12_declare 97 = .ok (.aload_n 0, 1) := by decide +kernel
theorem dX12_declare_98 : decode cX12_declare 98 = .ok (.getfield 279, 3) := by decide +kernel
theorem dX12_declare_101 : decode cX12_declare 101 = .ok (.iload 6, 2) := by decide +kernel
theorem dX12_declare_103 : decode cX12_declare 103 = .ok (.bastore, 1) := by decide +kernel
theorem dX12_declare_104 : decode cX12_declare 104 = .ok (.aload_n 0, 1) := by decide +kernel
theorem dX12_declare_105 : decode cX12_declare 105 = .ok (.dup, 1) := by decide +kernel
theorem dX12_declare_106 : decode cX12_declare 106 = .ok (.getfield 279, 3) := by decide +kernel
theorem dX12_declare_109 : decode cX12_declare 109 = .ok (.iconst 1, 1) := by decide +kernel
theorem dX12_declare_110 : decode cX12_declare 110 = .ok (.iadd, 1) := by decide +kernel
theorem dX12_declare_111 : decode cX12_declare 111 = .ok (.putfield 279, 3) := by decide +kernel
theorem dX12_declare_114 : decode cX12_declare 114 = .ok (.return_, 1) := by decide +kernel
theorem dX12_meaning_0 : decode cX12_meaning 0 = .ok (.aload_n 0, 1) := by decide +kernel
theorem dX12_meaning_1 : decode cX12_meaning 1 = .ok (.iconst (-1), 1) := by decide +kernel
theorem dX12_meaning_2 : decode cX12_meaning 2 = .ok (.putfield 374, 3) := by decide +kernel
theorem dX12_meaning_5 : decode cX12_meaning 5 = .ok (.aload_n 0, 1) := by decide +kernel
theorem dX12_meaning_6 : decode cX12_meaning 6 = .ok (.getfield 279, 3) := by decide +kernel
theorem dX12_meaning_9 : decode cX12_meaning 9 = .ok (.iconst 1, 1) := by decide +kernel
theorem dX12_meaning_10 : decode cX12_meaning 10 = .ok (.isub, 1) := by decide +kernel
theorem dX12_meaning_11 : decode cX12_meaning 11 = .ok (.istore_n 2, 1) := by decide +kernel
theorem dX12_meaning_12 : decode cX12_meaning 12 = .ok (.iconst (-1), 1) := by decide +kernel
theorem dX12_meaning_13 : decode cX12_meaning 13 = .ok (.istore_n 3, 1) := by decide +kernel
theorem dX12_meaning_14 : decode cX12_meaning 14 = .ok (.iload_n 2, 1) := by decide +kernel
theorem dX12_meaning_15 : decode cX12_meaning 15 = .ok (.ifCond .lt 46, 3) := by decide +kernel
theorem dX12_meaning_18 : decode cX12_meaning 18 = .ok (.iload_n 3, 1) := by decide +kernel
theorem dX12_meaning_19 : decode cX12_meaning 19 = .ok (.iconst (-1), 1) := by decide +kernel
theorem dX12_meaning_20 : decode cX12_meaning 20 = .ok (.if_icmp .eq 18, 3) := by decide +kernel
theorem dX12_meaning_23 : decode cX12_meaning 23 = .ok (.aload_n 0, 1) := by decide +kernel
theorem dX12_meaning_24 : decode cX12_meaning 24 = .ok (.getfield 46, 3) := by decide +kernel
theorem dX12_meaning_27 : decode cX12_meaning 27 = .ok (.iload_n 2, 1) := by decide +kernel
theorem dX12_meaning_28 : decode cX12_meaning 28 = .ok (.iaload, 1) := by decide +kernel
theorem dX12_meaning_29 : decode cX12_meaning 29 = .ok (.aload_n 0, 1) := by decide +kernel
theorem dX12_meaning_30 : decode cX12_meaning 30 = .ok (.getfield 46, 3) := by decide +kernel
theorem dX12_meaning_33 : decode cX12_meaning 33 = .ok (.iload_n 3, 1) := by decide +kernel
theorem dX12_meaning_34 : decode cX12_meaning 34 = .ok (.iaload, 1) := by decide +kernel
theorem dX12_meaning_35 : decode cX12_meaning 35 = .ok (.if_icmp .ne 26, 3) := by decide +kernel
theorem dX12_meaning_38 : decode cX12_meaning 38 = .ok (.aload_n 0, 1) := by decide +kernel
theorem dX12_meaning_39 : decode cX12_meaning 39 = .ok (.getfield 37, 3) := by decide +kernel
theorem dX12_meaning_42 : decode cX12_meaning 42 = .ok (.iload_n 2, 1) := by decide +kernel
theorem dX12_meaning_43 : decode cX12_meaning 43 = .ok (.iaload, 1) := by decide +kernel
theorem dX12_meaning_44 : decode cX12_meaning 44 = .ok (.aload_n 0, 1) := by decide +kernel
theorem dX12_meaning_45 : decode cX12_meaning 45 = .ok (.getfield 19, 3) := by decide +kernel
theorem dX12_meaning_48 : decode cX12_meaning 48 = .ok (.iload_n 1, 1) := by decide +kernel
theorem dX12_meaning_49 : decode cX12_meaning 49 = .ok (.iaload, 1) := by decide +kernel
theorem dX12_meaning_50 : decode cX12_meaning 50 = .ok (.if_icmp .ne 5, 3) := by decide +kernel
theorem dX12_meaning_53 : decode cX12_meaning 53 = .ok (.iload_n 2, 1) := by decide +kernel
theorem dX12_meaning_54 : decode cX12_meaning 54 = .ok (.istore_n 3, 1) := by decide +kernel
theorem dX12_meaning_55 : decode cX12_meaning 55 = .ok (.iinc 2 (-1), 3) := by decide +kernel
theorem dX12_meaning_58 : decode cX12_meaning 58 = .ok (.goto (-44), 3) := by decide +kernel
theorem dX12_meaning_61 : decode cX12_meaning 61 = .ok (.iload_n 3, 1) := by decide +kernel
theorem dX12_meaning_62 : decode cX12_meaning 62 = .ok (.iconst (-1), 1) := by decide +kernel
theorem dX12_meaning_63 : decode cX12_meaning 63 = .ok (.if_icmp .eq 14, 3) := by decide +kernel
theorem dX12_meaning_66 : decode cX12_meaning 66 = .ok (.aload_n 0, 1) := by decide +kernel
theorem dX12_meaning_67 : decode cX12_meaning 67 = .ok (.getfield 46, 3) := by decide +kernel
theorem dX12_meaning_70 : decode cX12_meaning 70 = .ok (.iload_n 3, 1) := by decide +kernel
theorem dX12_meaning_71 : decode cX12_meaning 71 = .ok (.iaload, 1) := by decide +kernel
theorem dX12_meaning_72 : decode cX12_meaning 72 = .ok (.ifCond .eq 5, 3) := by decide +kernel
theorem dX12_meaning_75 : decode cX12_meaning 75 = .ok (.iload_n 3, 1) := by decide +kernel
theorem dX12_meaning_76 : decode cX12_meaning 76 = .ok (.ireturn, 1) := by decide +kernel
theorem dX12_meaning_77 : decode cX12_meaning 77 = .ok (.aload_n 0, 1) := by decide +kernel
theorem dX12_meaning_78 : decode cX12_meaning 78 = .ok (.getfield 297, 3) := by decide +kernel
theorem dX12_meaning_81 : decode cX12_meaning 81 = .ok (.iconst 1, 1) := by decide +kernel
theorem dX12_meaning_82 : decode cX12_meaning 82 = .ok (.isub, 1) := by decide +kernel
theorem dX12_meaning_83 : decode cX12_meaning 83 = .ok (.istore 4, 2) := by decide +kernel
theorem dX12_meaning_85 : decode cX12_meaning 85 = .ok (.iload 4, 2) := by decide +kernel
theorem dX12_meaning_87 : decode cX12_meaning 87 = .ok (.ifCond .lt 31, 3) := by decide +kernel
theorem dX12_meaning_90 : decode cX12_meaning 90 = .ok (.aload_n 0, 1) := by decide +kernel
theorem dX12_meaning_91 : decode cX12_meaning 91 = .ok (.getfield 62, 3) := by decide +kernel
theorem dX12_meaning_94 : decode cX12_meaning 94 = .ok (.iload 4, 2) := by decide +kernel
theorem dX12_meaning_96 : decode cX12_meaning 96 = .ok (.iaload, 1) := by decide +kernel
theorem dX12_meaning_97 : decode cX12_meaning 97 = .ok (.aload_n 0, 1) := by decide +kernel
theorem dX12_meaning_98 : decode cX12_meaning 98 = .ok (.getfield 19, 3) := by decide +kernel
theorem dX12_meaning_101 : decode cX12_meaning 101 = .ok (.iload_n 1, 1) := by decide +kernel
theorem dX12_meaning_102 : decode cX12_meaning 102 = .ok (.iaload, 1) := by decide +kernel
theorem dX12_meaning_103 : decode cX12_meaning 103 = .ok (.if_icmp .ne 9, 3) := by decide +kernel
theorem dX12_meaning_106 : decode cX12_meaning 106 = .ok (.aload_n 0, 1) := by decide +kernel
theorem dX12_meaning_107 : decode cX12_meaning 107 = .ok (.iload 4, 2) := by decide +kernel
theorem dX12_meaning_109 : decode cX12_meaning 109 = .ok (.putfield 374, 3) := by decide +kernel
theorem dX12_meaning_112 : decode cX12_meaning 112 = .ok (.iinc 4 (-1), 3) := by decide +kernel
theorem dX12_meaning_115 : decode cX12_meaning 115 = .ok (.goto (-30), 3) := by decide +kernel
theorem dX12_meaning_118 : decode cX12_meaning 118 = .ok (.iload_n 3, 1) := by decide +kernel
theorem dX12_meaning_119 : decode cX12_meaning 119 = .ok (.iconst (-1), 1) := by decide +kernel
theorem dX12_meaning_120 : decode cX12_meaning 120 = .ok (.if_icmp .eq 34, 3) := by decide +kernel
theorem dX12_meaning_123 : decode cX12_meaning 123 = .ok (.aload_n 0, 1) := by decide +kernel
theorem dX12_meaning_124 : decode cX12_meaning 124 = .ok (.getfield 374, 3) := by decide +kernel
theorem dX12_meaning_127 : decode cX12_meaning 127 = .ok (.iconst (-1), 1) := by decide +kernel
theorem dX12_meaning_128 : decode cX12_meaning 128 = .ok (.if_icmp .eq 26, 3) := by decide +kernel
theorem dX12_meaning_131 : decode cX12_meaning 131 = .ok (.aload_n 0, 1) := by decide +kernel
theorem dX12_meaning_132 : decode cX12_meaning 132 = .ok (.getfield 65, 3) := by decide +kernel
theorem dX12_meaning_135 : decode cX12_meaning 135 = .ok (.aload_n 0, 1) := by decide +kernel
theorem dX12_meaning_136 : decode cX12_meaning 136 = .ok (.getfield 374, 3) := by decide +kernel
theorem dX12_meaning_139 : decode cX12_meaning 139 = .ok (.iaload, 1) := by decide +kernel
theorem dX12_meaning_140 : decode cX12_meaning 140 = .ok (.aload_n 0, 1) := by decide +kernel
theorem dX12_meaning_141 : decode cX12_meaning 141 = .ok (.getfield 43, 3) := by decide +kernel
theorem dX12_meaning_144 : decode cX12_meaning 144 = .ok (.iload_n 3, 1) := by decide +kernel
theorem dX12_meaning_145 : decode cX12_meaning 145 = .ok (.iaload, 1) := by decide +kernel
theorem dX12_meaning_146 : decode cX12_meaning 146 = .ok (.if_icmp .le 8, 3) := by decide +kernel
theorem dX12_meaning_149 : decode cX12_meaning 149 = .ok (.aload_n 0, 1) := by decide +kernel
theorem dX12_meaning_150 : decode cX12_meaning 150 = .ok (.iconst (-1), 1) := by decide +kernel
theorem dX12_meaning_151 : decode cX12_meaning 151 = .ok (.putfield 374, 3) := by decide +kernel
theorem dX12_meaning_154 : decode cX12_meaning 154 = .ok (.aload_n 0, 1) := by decide +kernel
theorem dX12_meaning_155 : decode cX12_meaning 155 = .ok (.getfield 374, 3) := by decide +kernel
theorem dX12_meaning_158 : decode cX12_meaning 158 = .ok (.iconst (-1), 1) := by decide +kernel
theorem dX12_meaning_159 : decode cX12_meaning 159 = .ok (.if_icmp .eq 7, 3) := by decide +kernel
theorem dX12_meaning_162 : decode cX12_meaning 162 = .ok (.iconst (-1), 1) := by decide +kernel
theorem dX12_meaning_163 : decode cX12_meaning 163 = .ok (.goto 4, 3) := by decide +kernel
theorem dX12_meaning_166 : decode cX12_meaning 166 = .ok (.iload_n 3, 1) := by decide +kernel
theorem dX12_meaning_167 : decode cX12_meaning 167 = .ok (.ireturn, 1) := by decide +kernel
theorem dX12_begins_0 : decode cX12_begins 0 = .ok (.aload_n 0, 1) := by decide +kernel
theorem dX12_begins_1 : decode cX12_begins 1 = .ok (.dup, 1) := by decide +kernel
theorem dX12_begins_2 : decode cX12_begins 2 = .ok (.getfield 282, 3) := by decide +kernel
theorem dX12_begins_5 : decode cX12_begins 5 = .ok (.iconst 1, 1) := by decide +kernel
theorem dX12_begins_6 : decode cX12_begins 6 = .ok (.iadd, 1) := by decide +kernel
theorem dX12_begins_7 : decode cX12_begins 7 = .ok (.putfield 282, 3) := by decide +kernel
theorem dX12_begins_10 : decode cX12_begins 10 = .ok (.return_, 1) := by decide +kernel
theorem dX12_ends_0 : decode cX12_ends 0 = .ok (.aload_n 0, 1) := by decide +kernel
theorem dX12_ends_1 : decode cX12_ends 1 = .ok (.getfield 279, 3) := by decide +kernel
theorem dX12_ends_4 : decode cX12_ends 4 = .ok (.ifCond .le 31, 3) := by decide +kernel
theorem dX12_ends_7 : decode cX12_ends 7 = .ok (.aload_n 0, 1) := by decide +kernel
theorem dX12_ends_8 : decode cX12_ends 8 = .ok (.getfield 46, 3) := by decide +kernel
theorem dX12_ends_11 : decode cX12_ends 11 = .ok (.aload_n 0, 1) := by decide +kernel
theorem dX12_ends_12 : decode cX12_ends 12 = .ok (.getfield 279, 3) := by decide +kernel
theorem dX12_ends_15 : decode cX12_ends 15 = .ok (.iconst 1, 1) := by decide +kernel
theorem dX12_ends_16 : decode cX12_ends 16 = .ok (.isub, 1) := by decide +kernel
theorem dX12_ends_17 : decode cX12_ends 17 = .ok (.iaload, 1) := by decide +kernel
theorem dX12_ends_18 : decode cX12_ends 18 = .ok (.iload_n 1, 1) := by decide +kernel
theorem dX12_ends_19 : decode cX12_ends 19 = .ok (.if_icmp .le 16, 3) := by decide +kernel
theorem dX12_ends_22 : decode cX12_ends 22 = .ok (.aload_n 0, 1) := by decide +kernel
theorem dX12_ends_23 : decode cX12_ends 23 = .ok (.dup, 1) := by decide +kernel
theorem dX12_ends_24 : decode cX12_ends 24 = .ok (.getfield 279, 3) := by decide +kernel
theorem dX12_ends_27 : decode cX12_ends 27 = .ok (.iconst 1, 1) := by decide +kernel
theorem dX12_ends_28 : decode cX12_ends 28 = .ok (.isub, 1) := by decide +kernel
theorem dX12_ends_29 : decode cX12_ends 29 = .ok (.putfield 279, 3) := by decide +kernel
theorem dX12_ends_32 : decode cX12_ends 32 = .ok (.goto (-32), 3) := by decide +kernel
theorem dX12_ends_35 : decode cX12_ends 35 = .ok (.aload_n 0, 1) := by decide +kernel
theorem dX12_ends_36 : decode cX12_ends 36 = .ok (.iload_n 1, 1) := by decide +kernel
theorem dX12_ends_37 : decode cX12_ends 37 = .ok (.putfield 282, 3) := by decide +kernel
theorem dX12_ends_40 : decode cX12_ends 40 = .ok (.return_, 1) := by decide +kernel
theorem dX12_function_0 : decode cX12_function 0 = .ok (.aload_n 0, 1) := by decide +kernel
theorem dX12_function_1 : decode cX12_function 1 = .ok (.iconst 1, 1) := by decide +kernel
theorem dX12_function_2 : decode cX12_function 2 = .ok (.putfield 306, 3) := by decide +kernel
theorem dX12_function_5 : decode cX12_function 5 = .ok (.aload_n 0, 1) := by decide +kernel
theorem dX12_function_6 : decode cX12_function 6 = .ok (.iload_n 2, 1) := by decide +kernel
theorem dX12_function_7 : decode cX12_function 7 = .ok (.invokevirtual 348, 3) := by decide +kernel
theorem dX12_function_10 : decode cX12_function 10 = .ok (.iload_n 1, 1) := by decide +kernel
theorem dX12_function_11 : decode cX12_function 11 = .ok (.bipush 40, 2) := by decide +kernel
theorem dX12_function_13 : decode cX12_function 13 = .ok (.if_icmp .lt 15, 3) := by decide +kernel
theorem dX12_function_16 : decode cX12_function 16 = .ok (.aload_n 0, 1) := by decide +kernel
theorem dX12_function_17 : decode cX12_function 17 = .ok (.bipush 11, 2) := by decide +kernel
theorem dX12_function_19 : decode cX12_function 19 = .ok (.aload_n 0, 1) := by decide +kernel
theorem dX12_function_20 : decode cX12_function 20 = .ok (.getfield 22, 3) := by decide +kernel
theorem dX12_function_23 : decode cX12_function 23 = .ok (.iload_n 2, 1) := by decide +kernel
theorem dX12_function_24 : decode cX12_function 24 = .ok (.iaload, 1) := by decide +kernel
theorem dX12_function_25 : decode cX12_function 25 = .ok (.invokevirtual 352, 3) := by decide +kernel
theorem dX12_function_28 : decode cX12_function 28 = .ok (.aload_n 0, 1) := by decide +kernel
theorem dX12_function_29 : decode cX12_function 29 = .ok (.getfield 245, 3) := by decide +kernel
theorem dX12_function_32 : decode cX12_function 32 = .ok (.ifCond .ne 65, 3) := by decide +kernel
theorem dX12_function_35 : decode cX12_function 35 = .ok (.aload_n 0, 1) := by decide +kernel
theorem dX12_function_36 : decode cX12_function 36 = .ok (.getfield 62, 3) := by decide +kernel
theorem dX12_function_39 : decode cX12_function 39 = .ok (.iload_n 1, 1) := by decide +kernel
theorem dX12_function_40 : decode cX12_function 40 = .ok (.aload_n 0, 1) := by decide +kernel
theorem dX12_function_41 : decode cX12_function 41 = .ok (.getfield 19, 3) := by decide +kernel
theorem dX12_function_44 : decode cX12_function 44 = .ok (.iload_n 2, 1) := by decide +kernel
theorem dX12_function_45 : decode cX12_function 45 = .ok (.iaload, 1) := by decide +kernel
theorem dX12_function_46 : decode cX12_function 46 = .ok (.iastore, 1) := by decide +kernel
theorem dX12_function_47 : decode cX12_function 47 = .ok (.aload_n 0, 1) := by decide +kernel
theorem dX12_function_48 : decode cX12_function 48 = .ok (.getfield 65, 3) := by decide +kernel
theorem dX12_function_51 : decode cX12_function 51 = .ok (.iload_n 1, 1) := by decide +kernel
theorem dX12_function_52 : decode cX12_function 52 = .ok (.aload_n 0, 1) := by decide +kernel
theorem dX12_function_53 : decode cX12_function 53 = .ok (.getfield 22, 3) := by decide +kernel
theorem dX12_function_56 : decode cX12_function 56 = .ok (.iload_n 2, 1) := by decide +kernel
theorem dX12_function_57 : decode cX12_function 57 = .ok (.iaload, 1) := by decide +kernel
theorem dX12_function_58 : decode cX12_function 58 = .ok (.iastore, 1) := by decide +kernel
theorem dX12_function_59 : decode cX12_function 59 = .ok (.aload_n 0, 1) := by decide +kernel
theorem dX12_function_60 : decode cX12_function 60 = .ok (.getfield 86, 3) := by decide +kernel
theorem dX12_function_63 : decode cX12_function 63 = .ok (.iload_n 1, 1) := by decide +kernel
theorem dX12_function_64 : decode cX12_function 64 = .ok (.iload_n 3, 1) := by decide +kernel
theorem dX12_function_65 : decode cX12_function 65 = .ok (.bastore, 1) := by decide +kernel
theorem dX12_function_66 : decode cX12_function 66 = .ok (.aload_n 0, 1) := by decide +kernel
theorem dX12_function_67 : decode cX12_function 67 = .ok (.getfield 80, 3) := by decide +kernel
theorem dX12_function_70 : decode cX12_function 70 = .ok (.iload_n 1, 1) := by decide +kernel
theorem dX12_function_71 : decode cX12_function 71 = .ok (.aload_n 0, 1) := by decide +kernel
theorem dX12_function_72 : decode cX12_function 72 = .ok (.getfield 300, 3) := by decide +kernel
theorem dX12_function_75 : decode cX12_function 75 = .ok (.iastore, 1) := by decide +kernel
theorem dX12_function_76 : decode cX12_function 76 = .ok (.aload_n 0, 1) := by decide +kernel
theorem dX12_function_77 : decode cX12_function 77 = .ok (.getfield 68, 3) := by decide +kernel
theorem dX12_function_80 : decode cX12_function 80 = .ok (.iload_n 1, 1) := by decide +kernel
theorem dX12_function_81 : decode cX12_function 81 = .ok (.iconst 0, 1) := by decide +kernel
theorem dX12_function_82 : decode cX12_function 82 = .ok (.iastore, 1) := by decide +kernel
theorem dX12_function_83 : decode cX12_function 83 = .ok (.aload_n 0, 1) := by decide +kernel
theorem dX12_function_84 : decode cX12_function 84 = .ok (.getfield 83, 3) := by decide +kernel
theorem dX12_function_87 : decode cX12_function 87 = .ok (.iload_n 1, 1) := by decide +kernel
theorem dX12_function_88 : decode cX12_function 88 = .ok (.iconst (-1), 1) := by decide +kernel
theorem dX12_function_89 : decode cX12_function 89 = .ok (.iastore, 1) := by decide +kernel
theorem dX12_function_90 : decode cX12_function 90 = .ok (.aload_n 0, 1) := by decide +kernel
theorem dX12_function_91 : decode cX12_function 91 = .ok (.iload_n 1, 1) := by decide +kernel
theorem dX12_function_92 : decode cX12_function 92 = .ok (.iconst 1, 1) := by decide +kernel
theorem dX12_function_93 : decode cX12_function 93 = .ok (.iadd, 1) := by decide +kernel
theorem dX12_function_94 : decode cX12_function 94 = .ok (.putfield 297, 3) := by decide +kernel
theorem dX12_function_97 : decode cX12_function 97 = .ok (.aload_n 0, 1) := by decide +kernel
theorem dX12_function_98 : decode cX12_function 98 = .ok (.iload_n 1, 1) := by decide +kernel
theorem dX12_function_99 : decode cX12_function 99 = .ok (.putfield 294, 3) := by decide +kernel
theorem dX12_function_102 : decode cX12_function 102 = .ok (.aload_n 0, 1) := by decide +kernel
theorem dX12_function_103 : decode cX12_function 103 = .ok (.iconst (-1), 1) := by decide +kernel
theorem dX12_function_104 : decode cX12_function 104 = .ok (.putfield 377, 3) := by decide +kernel
theorem dX12_function_107 : decode cX12_function 107 = .ok (.aload_n 0, 1) := by decide +kernel
theorem dX12_function_108 : decode cX12_function 108 = .ok (.iconst (-1), 1) := by decide +kernel
theorem dX12_function_109 : decode cX12_function 109 = .ok (.putfield 380, 3) := by decide +kernel
theorem dX12_function_112 : decode cX12_function 112 = .ok (.aload_n 0, 1) := by decide +kernel
theorem dX12_function_113 : decode cX12_function 113 = .ok (.iconst 0, 1) := by decide +kernel
theorem dX12_function_114 : decode cX12_function 114 = .ok (.putfield 383, 3) := by decide +kernel
theorem dX12_function_117 : decode cX12_function 117 = .ok (.aload_n 0, 1) := by decide +kernel
theorem dX12_function_118 : decode cX12_function 118 = .ok (.iconst 0, 1) := by decide +kernel
theorem dX12_function_119 : decode cX12_function 119 = .ok (.putfield 386, 3) := by decide +kernel
theorem dX12_function_122 : decode cX12_function 122 = .ok (.aload_n 0, 1) := by decide +kernel
theorem dX12_function_123 : decode cX12_function 123 = .ok (.iconst 0, 1) := by decide +kernel
theorem dX12_function_124 : decode cX12_function 124 = .ok (.putfield 389, 3) := by decide +kernel
theorem dX12_function_127 : decode cX12_function 127 = .ok (.aload_n 0, 1) := by decide +kernel
theorem dX12_function_128 : decode cX12_function 128 = .ok (.invokevirtual 392, 3) := by decide +kernel
theorem dX12_function_131 : decode cX12_function 131 = .ok (.aload_n 0, 1) := by decide +kernel
theorem dX12_function_132 : decode cX12_function 132 = .ok (.bipush 22, 2) := by decide +kernel
theorem dX12_function_134 : decode cX12_function 134 = .ok (.invokevirtual 356, 3) := by decide +kernel
theorem dX12_function_137 : decode cX12_function 137 = .ok (.ifCond .ne 5, 3) := by decide +kernel
theorem dX12_function_140 : decode cX12_function 140 = .ok (.iconst 0, 1) := by decide +kernel
theorem dX12_function_141 : decode cX12_function 141 = .ok (.ireturn, 1) := by decide +kernel
theorem dX12_function_142 : decode cX12_function 142 = .ok (.iconst 4, 1) := by decide +kernel
theorem dX12_function_143 : decode cX12_function 143 = .ok (.istore 4, 2) := by decide +kernel
theorem dX12_function_145 : decode cX12_function 145 = .ok (.iconst 0, 1) := by decide +kernel
theorem dX12_function_146 : decode cX12_function 146 = .ok (.istore 5, 2) := by decide +kernel
theorem dX12_function_148 : decode cX12_function 148 = .ok (.aload_n 0, 1) := by decide +kernel
theorem dX12_function_149 : decode cX12_function 149 = .ok (.bipush 23, 2) := by decide +kernel
theorem dX12_function_151 : decode cX12_function 151 = .ok (.invokevirtual 257, 3) := by decide +kernel
theorem dX12_function_154 : decode cX12_function 154 = .ok (.ifCond .ne 128, 3) := by decide +kernel
theorem dX12_function_157 : decode cX12_function 157 = .ok (.aload_n 0, 1) := by decide +kernel
theorem dX12_function_158 : decode cX12_function 158 = .ok (.getfield 245, 3) := by decide +kernel
theorem dX12_function_161 : decode cX12_function 161 = .ok (.ifCond .ne 13, 3) := by decide +kernel
theorem dX12_function_164 : decode cX12_function 164 = .ok (.aload_n 0, 1) := by decide +kernel
theorem dX12_function_165 : decode cX12_function 165 = .ok (.getfield 83, 3) := by decide +kernel
theorem dX12_function_168 : decode cX12_function 168 = .ok (.iload_n 1, 1) := by decide +kernel
theorem dX12_function_169 : decode cX12_function 169 = .ok (.aload_n 0, 1) := by decide +kernel
theorem dX12_function_170 : decode cX12_function 170 = .ok (.getfield 233, 3) := by decide +kernel
theorem dX12_function_173 : decode cX12_function 173 = .ok (.iastore, 1) := by decide +kernel
theorem dX12_function_174 : decode cX12_function 174 = .ok (.iconst 1, 1) := by decide +kernel
theorem dX12_function_175 : decode cX12_function 175 = .ok (.istore 6, 2) := by decide +kernel
theorem dX12_function_177 : decode cX12_function 177 = .ok (.iload 6, 2) := by decide +kernel
theorem dX12_function_179 : decode cX12_function 179 = .ok (.ifCond .eq 103, 3) := by decide +kernel
theorem dX12_function_182 : decode cX12_function 182 = .ok (.aload_n 0, 1) := by decide +kernel
theorem dX12_function_183 : decode cX12_function 183 = .ok (.getfield 230, 3) := by decide +kernel
theorem dX12_function_186 : decode cX12_function 186 = .ok (.ifCond .ne 96, 3) := by decide +kernel
theorem dX12_function_189 : decode cX12_function 189 = .ok (.aload_n 0, 1) := by decide +kernel
theorem dX12_function_190 : decode cX12_function 190 = .ok (.iload 5, 2) := by decide +kernel
theorem dX12_function_192 : decode cX12_function 192 = .ok (.invokevirtual 395, 3) := by decide +kernel
theorem dX12_function_195 : decode cX12_function 195 = .ok (.istore 7, 2) := by decide +kernel
theorem dX12_function_197 : decode cX12_function 197 = .ok (.aload_n 0, 1) := by decide +kernel
theorem dX12_function_198 : decode cX12_function 198 = .ok (.getfield 230, 3) := by decide +kernel
theorem dX12_function_201 : decode cX12_function 201 = .ok (.ifCond .le 5, 3) := by decide +kernel
theorem dX12_function_204 : decode cX12_function 204 = .ok (.iconst 0, 1) := by decide +kernel
theorem dX12_function_205 : decode cX12_function 205 = .ok (.ireturn, 1) := by decide +kernel
theorem dX12_function_206 : decode cX12_function 206 = .ok (.aload_n 0, 1) := by decide +kernel
theorem dX12_function_207 : decode cX12_function 207 = .ok (.getfield 245, 3) := by decide +kernel
theorem dX12_function_210 : decode cX12_function 210 = .ok (.ifCond .ne 24, 3) := by decide +kernel
theorem dX12_function_213 : decode cX12_function 213 = .ok (.aload_n 0, 1) := by decide +kernel
theorem dX12_function_214 : decode cX12_function 214 = .ok (.getfield 89, 3) := by decide +kernel
theorem dX12_function_217 : decode cX12_function 217 = .ok (.aload_n 0, 1) := by decide +kernel
theorem dX12_function_218 : decode cX12_function 218 = .ok (.getfield 300, 3) := by decide +kernel
theorem dX12_function_221 : decode cX12_function 221 = .ok (.iload 7, 2) := by decide +kernel
theorem dX12_function_223 : decode cX12_function 223 = .ok (.iastore, 1) := by decide +kernel
theorem dX12_function_224 : decode cX12_function 224 = .ok (.aload_n 0, 1) := by decide +kernel
theorem dX12_function_225 : decode cX12_function 225 = .ok (.dup, 1) := by decide +kernel
theorem dX12_function_226 : decode cX12_function 226 = .ok (.getfield 300, 3) := by decide +kernel
theorem dX12_function_229 : decode cX12_function 229 = .ok (.iconst 1, 1) := by decide +kernel
theorem dX12_function_230 : decode cX12_function 230 = .ok (.iadd, 1) := by decide +kernel
theorem dX12_function_231 : decode cX12_function 231 = .ok (.putfield 300, 3) := by decide +kernel
theorem dX12_function_234 : decode cX12_function 234 = .ok (.iload 4, 2) := by decide +kernel
theorem dX12_function_236 : decode cX12_function 236 = .ok (.iload 7, 2) := by decide +kernel
theorem dX12_function_238 : decode cX12_function 238 = .ok (.ifCond .ne 7, 3) := by decide +kernel
theorem dX12_function_241 : decode cX12_function 241 = .ok (.iconst 1, 1) := by decide +kernel
theorem dX12_function_242 : decode cX12_function 242 = .ok (.goto 4, 3) := by decide +kernel
theorem dX12_function_245 : decode cX12_function 245 = .ok (.iconst 2, 1) := by decide +kernel
theorem dX12_function_246 : decode cX12_function 246 = .ok (.iadd, 1) := by decide +kernel
theorem dX12_function_247 : decode cX12_function 247 = .ok (.istore 4, 2) := by decide +kernel
theorem dX12_function_249 : decode cX12_function 249 = .ok (.iinc 5 1, 3) := by decide +kernel
theorem dX12_function_252 : decode cX12_function 252 = .ok (.aload_n 0, 1) := by decide +kernel
theorem dX12_function_253 : decode cX12_function 253 = .ok (.bipush 28, 2) := by decide +kernel
theorem dX12_function_255 : decode cX12_function 255 = .ok (.invokevirtual 257, 3) := by decide +kernel
theorem dX12_function_258 : decode cX12_function 258 = .ok (.istore 6, 2) := by decide +kernel
theorem dX12_function_260 : decode cX12_function 260 = .ok (.aload_n 0, 1) := by decide +kernel
theorem dX12_function_261 : decode cX12_function 261 = .ok (.dup, 1) := by decide +kernel
theorem dX12_function_262 : decode cX12_function 262 = .ok (.getfield 233, 3) := by decide +kernel
theorem dX12_function_265 : decode cX12_function 265 = .ok (.iload 6, 2) := by decide +kernel
theorem dX12_function_267 : decode cX12_function 267 = .ok (.ifCond .eq 7, 3) := by decide +kernel
theorem dX12_function_270 : decode cX12_function 270 = .ok (.iconst 1, 1) := by decide +kernel
theorem dX12_function_271 : decode cX12_function 271 = .ok (.goto 4, 3) := by decide +kernel
theorem dX12_function_274 : decode cX12_function 274 = .ok (.iconst 0, 1) := by decide +kernel
theorem dX12_function_275 : decode cX12_function 275 = .ok (.iadd, 1) := by decide +kernel
theorem dX12_function_276 : decode cX12_function 276 = .ok (.putfield 233, 3) := by decide +kernel
theorem dX12_function_279 : decode cX12_function 279 = .ok (.goto (-102), 3) := by decide +kernel
theorem dX12_function_282 : decode cX12_function 282 = .ok (.aload_n 0, 1) := by decide +kernel
theorem dX12_function_283 : decode cX12_function 283 = .ok (.bipush 23, 2) := by decide +kernel
theorem dX12_function_285 : decode cX12_function 285 = .ok (.invokevirtual 362, 3) := by decide +kernel
theorem dX12_function_288 : decode cX12_function 288 = .ok (.ifCond .ne 5, 3) := by decide +kernel
theorem dX12_function_291 : decode cX12_function 291 = .ok (.iconst 0, 1) := by decide +kernel
theorem dX12_function_292 : decode cX12_function 292 = .ok (.ireturn, 1) := by decide +kernel
theorem dX12_function_293 : decode cX12_function 293 = .ok (.aload_n 0, 1) := by decide +kernel
theorem dX12_function_294 : decode cX12_function 294 = .ok (.getfield 68, 3) := by decide +kernel
theorem dX12_function_297 : decode cX12_function 297 = .ok (.iload_n 1, 1) := by decide +kernel
theorem dX12_function_298 : decode cX12_function 298 = .ok (.iload 5, 2) := by decide +kernel
theorem dX12_function_300 : decode cX12_function 300 = .ok (.iastore, 1) := by decide +kernel
theorem dX12_function_301 : decode cX12_function 301 = .ok (.aload_n 0, 1) := by decide +kernel
theorem dX12_function_302 : decode cX12_function 302 = .ok (.getfield 77, 3) := by decide +kernel
theorem dX12_function_305 : decode cX12_function 305 = .ok (.iload_n 1, 1) := by decide +kernel
theorem dX12_function_306 : decode cX12_function 306 = .ok (.aload_n 0, 1) := by decide +kernel
theorem dX12_function_307 : decode cX12_function 307 = .ok (.getfield 276, 3) := by decide +kernel
theorem dX12_function_310 : decode cX12_function 310 = .ok (.iastore, 1) := by decide +kernel
theorem dX12_function_311 : decode cX12_function 311 = .ok (.aload_n 0, 1) := by decide +kernel
theorem dX12_function_312 : decode cX12_function 312 = .ok (.bipush 26, 2) := by decide +kernel
theorem dX12_function_314 : decode cX12_function 314 = .ok (.invokevirtual 257, 3) := by decide +kernel
theorem dX12_function_317 : decode cX12_function 317 = .ok (.ifCond .ne 9, 3) := by decide +kernel
theorem dX12_function_320 : decode cX12_function 320 = .ok (.aload_n 0, 1) := by decide +kernel
theorem dX12_function_321 : decode cX12_function 321 = .ok (.iconst 2, 1) := by decide +kernel
theorem dX12_function_322 : decode cX12_function 322 = .ok (.invokevirtual 260, 3) := by decide +kernel
theorem dX12_function_325 : decode cX12_function 325 = .ok (.ireturn, 1) := by decide +kernel
theorem dX12_function_326 : decode cX12_function 326 = .ok (.aload_n 0, 1) := by decide +kernel
theorem dX12_function_327 : decode cX12_function 327 = .ok (.invokevirtual 398, 3) := by decide +kernel
theorem dX12_function_330 : decode cX12_function 330 = .ok (.ifCond .ne 5, 3) := by decide +kernel
theorem dX12_function_333 : decode cX12_function 333 = .ok (.iconst 0, 1) := by decide +kernel
theorem dX12_function_334 : decode cX12_function 334 = .ok (.ireturn, 1) := by decide +kernel
theorem dX12_function_335 : decode cX12_function 335 = .ok (.aload_n 0, 1) := by decide +kernel
theorem dX12_function_336 : decode cX12_function 336 = .ok (.iconst 0, 1) := by decide +kernel
theorem dX12_function_337 : decode cX12_function 337 = .ok (.iconst 0, 1) := by decide +kernel
theorem dX12_function_338 : decode cX12_function 338 = .ok (.iconst 0, 1) := by decide +kernel
theorem dX12_function_339 : decode cX12_function 339 = .ok (.invokevirtual 401, 3) := by decide +kernel
theorem dX12_function_342 : decode cX12_function 342 = .ok (.pop, 1) := by decide +kernel
theorem dX12_function_343 : decode cX12_function 343 = .ok (.aload_n 0, 1) := by decide +kernel
theorem dX12_function_344 : decode cX12_function 344 = .ok (.bipush 17, 2) := by decide +kernel
theorem dX12_function_346 : decode cX12_function 346 = .ok (.iconst 0, 1) := by decide +kernel
theorem dX12_function_347 : decode cX12_function 347 = .ok (.iconst 0, 1) := by decide +kernel
theorem dX12_function_348 : decode cX12_function 348 = .ok (.invokevirtual 401, 3) := by decide +kernel
theorem dX12_function_351 : decode cX12_function 351 = .ok (.pop, 1) := by decide +kernel
theorem dX12_function_352 : decode cX12_function 352 = .ok (.aload_n 0, 1) := by decide +kernel
theorem dX12_function_353 : decode cX12_function 353 = .ok (.getfield 71, 3) := by decide +kernel
theorem dX12_function_356 : decode cX12_function 356 = .ok (.iload_n 1, 1) := by decide +kernel
theorem dX12_function_357 : decode cX12_function 357 = .ok (.iload 4, 2) := by decide +kernel
theorem dX12_function_359 : decode cX12_function 359 = .ok (.aload_n 0, 1) := by decide +kernel
theorem dX12_function_360 : decode cX12_function 360 = .ok (.getfield 383, 3) := by decide +kernel
theorem dX12_function_363 : decode cX12_function 363 = .ok (.iadd, 1) := by decide +kernel
theorem dX12_function_364 : decode cX12_function 364 = .ok (.iastore, 1) := by decide +kernel
theorem dX12_function_365 : decode cX12_function 365 = .ok (.aload_n 0, 1) := by decide +kernel
theorem dX12_function_366 : decode cX12_function 366 = .ok (.getfield 74, 3) := by decide +kernel
theorem dX12_function_369 : decode cX12_function 369 = .ok (.iload_n 1, 1) := by decide +kernel
theorem dX12_function_370 : decode cX12_function 370 = .ok (.aload_n 0, 1) := by decide +kernel
theorem dX12_function_371 : decode cX12_function 371 = .ok (.getfield 386, 3) := by decide +kernel
theorem dX12_function_374 : decode cX12_function 374 = .ok (.iastore, 1) := by decide +kernel
theorem dX12_function_375 : decode cX12_function 375 = .ok (.aload_n 0, 1) := by decide +kernel
theorem dX12_function_376 : decode cX12_function 376 = .ok (.iconst 0, 1) := by decide +kernel
theorem dX12_function_377 : decode cX12_function 377 = .ok (.invokevirtual 405, 3) := by decide +kernel
theorem dX12_function_380 : decode cX12_function 380 = .ok (.aload_n 0, 1) := by decide +kernel
theorem dX12_function_381 : decode cX12_function 381 = .ok (.iconst (-1), 1) := by decide +kernel
theorem dX12_function_382 : decode cX12_function 382 = .ok (.putfield 294, 3) := by decide +kernel
theorem dX12_function_385 : decode cX12_function 385 = .ok (.iconst 1, 1) := by decide +kernel
theorem dX12_function_386 : decode cX12_function 386 = .ok (.ireturn, 1) := by decide +kernel
theorem dX12_formalHere_0 : decode cX12_formalHere 0 = .ok (.aload_n 0, 1) := by decide +kernel
theorem dX12_formalHere_1 : decode cX12_formalHere 1 = .ok (.iconst 1, 1) := by decide +kernel
theorem dX12_formalHere_2 : decode cX12_formalHere 2 = .ok (.invokevirtual 263, 3) := by decide +kernel
theorem dX12_formalHere_5 : decode cX12_formalHere 5 = .ok (.istore_n 2, 1) := by decide +kernel
theorem dX12_formalHere_6 : decode cX12_formalHere 6 = .ok (.iload_n 2, 1) := by decide +kernel
theorem dX12_formalHere_7 : decode cX12_formalHere 7 = .ok (.ifCond .ne 19, 3) := by decide +kernel
theorem dX12_formalHere_10 : decode cX12_formalHere 10 = .ok (.aload_n 0, 1) := by decide +kernel
theorem dX12_formalHere_11 : decode cX12_formalHere 11 = .ok (.iconst 0, 1) := by decide +kernel
theorem dX12_formalHere_12 : decode cX12_formalHere 12 = .ok (.invokevirtual 263, 3) := by decide +kernel
theorem dX12_formalHere_15 : decode cX12_formalHere 15 = .ok (.ifCond .ne 11, 3) := by decide +kernel
theorem dX12_formalHere_18 : decode cX12_formalHere 18 = .ok (.aload_n 0, 1) := by decide +kernel
theorem dX12_formalHere_19 : decode cX12_formalHere 19 = .ok (.iconst 2, 1) := by decide +kernel
theorem dX12_formalHere_20 : decode cX12_formalHere 20 = .ok (.invokevirtual 260, 3) := by decide +kernel
theorem dX12_formalHere_23 : decode cX12_formalHere 23 = .ok (.pop, 1) := by decide +kernel
theorem dX12_formalHere_24 : decode cX12_formalHere 24 = .ok (.iconst 0, 1) := by decide +kernel
theorem dX12_formalHere_25 : decode cX12_formalHere 25 = .ok (.ireturn, 1) := by decide +kernel
theorem dX12_formalHere_26 : decode cX12_formalHere 26 = .ok (.aload_n 0, 1) := by decide +kernel
theorem dX12_formalHere_27 : decode cX12_formalHere 27 = .ok (.dup, 1) := by decide +kernel
theorem dX12_formalHere_28 : decode cX12_formalHere 28 = .ok (.getfield 233, 3) := by decide +kernel
theorem dX12_formalHere_31 : decode cX12_formalHere 31 = .ok (.iconst 1, 1) := by decide +kernel
theorem dX12_formalHere_32 : decode cX12_formalHere 32 = .ok (.iadd, 1) := by decide +kernel
theorem dX12_formalHere_33 : decode cX12_formalHere 33 = .ok (.putfield 233, 3) := by decide +kernel
theorem dX12_formalHere_36 : decode cX12_formalHere 36 = .ok (.aload_n 0, 1) := by decide +kernel
theorem dX12_formalHere_37 : decode cX12_formalHere 37 = .ok (.invokevirtual 317, 3) := by decide +kernel
theorem dX12_formalHere_40 : decode cX12_formalHere 40 = .ok (.istore_n 3, 1) := by decide +kernel
theorem dX12_formalHere_41 : decode cX12_formalHere 41 = .ok (.aload_n 0, 1) := by decide +kernel
theorem dX12_formalHere_42 : decode cX12_formalHere 42 = .ok (.getfield 230, 3) := by decide +kernel
theorem dX12_formalHere_45 : decode cX12_formalHere 45 = .ok (.ifCond .le 5, 3) := by decide +kernel
theorem dX12_formalHere_48 : decode cX12_formalHere 48 = .ok (.iconst 0, 1) := by decide +kernel
theorem dX12_formalHere_49 : decode cX12_formalHere 49 = .ok (.ireturn, 1) := by decide +kernel
theorem dX12_formalHere_50 : decode cX12_formalHere 50 = .ok (.aload_n 0, 1) := by decide +kernel
theorem dX12_formalHere_51 : decode cX12_formalHere 51 = .ok (.iload_n 3, 1) := by decide +kernel
theorem dX12_formalHere_52 : decode cX12_formalHere 52 = .ok (.invokevirtual 348, 3) := by decide +kernel
theorem dX12_formalHere_55 : decode cX12_formalHere 55 = .ok (.iload_n 1, 1) := by decide +kernel
theorem dX12_formalHere_56 : decode cX12_formalHere 56 = .ok (.iconst 4, 1) := by decide +kernel
theorem dX12_formalHere_57 : decode cX12_formalHere 57 = .ok (.if_icmp .ne 15, 3) := by decide +kernel
theorem dX12_formalHere_60 : decode cX12_formalHere 60 = .ok (.aload_n 0, 1) := by decide +kernel
theorem dX12_formalHere_61 : decode cX12_formalHere 61 = .ok (.bipush 11, 2) := by decide +kernel
theorem dX12_formalHere_63 : decode cX12_formalHere 63 = .ok (.aload_n 0, 1) := by decide +kernel
theorem dX12_formalHere_64 : decode cX12_formalHere 64 = .ok (.getfield 22, 3) := by decide +kernel
theorem dX12_formalHere_67 : decode cX12_formalHere 67 = .ok (.iload_n 3, 1) := by decide +kernel
theorem dX12_formalHere_68 : decode cX12_formalHere 68 = .ok (.iaload, 1) := by decide +kernel
theorem dX12_formalHere_69 : decode cX12_formalHere 69 = .ok (.invokevirtual 352, 3) := by decide +kernel
theorem dX12_formalHere_72 : decode cX12_formalHere 72 = .ok (.iload_n 2, 1) := by decide +kernel
theorem dX12_formalHere_73 : decode cX12_formalHere 73 = .ok (.ifCond .ne 12, 3) := by decide +kernel
theorem dX12_formalHere_76 : decode cX12_formalHere 76 = .ok (.aload_n 0, 1) := by decide +kernel
theorem dX12_formalHere_77 : decode cX12_formalHere 77 = .ok (.bipush 24, 2) := by decide +kernel
theorem dX12_formalHere_79 : decode cX12_formalHere 79 = .ok (.invokevirtual 257, 3) := by decide +kernel
theorem dX12_formalHere_82 : decode cX12_formalHere 82 = .ok (.ifCond .eq 7, 3) := by decide +kernel
theorem dX12_formalHere_85 : decode cX12_formalHere 85 = .ok (.iconst 1, 1) := by decide +kernel
theorem dX12_formalHere_86 : decode cX12_formalHere 86 = .ok (.goto 4, 3) := by decide +kernel
theorem dX12_formalHere_89 : decode cX12_formalHere 89 = .ok (.iconst 0, 1) := by decide +kernel
theorem dX12_formalHere_90 : decode cX12_formalHere 90 = .ok (.istore 4, 2) := by decide +kernel
theorem dX12_formalHere_92 : decode cX12_formalHere 92 = .ok (.iload 4, 2) := by decide +kernel
theorem dX12_formalHere_94 : decode cX12_formalHere 94 = .ok (.ifCond .eq 23, 3) := by decide +kernel
theorem dX12_formalHere_97 : decode cX12_formalHere 97 = .ok (.aload_n 0, 1) := by decide +kernel
theorem dX12_formalHere_98 : decode cX12_formalHere 98 = .ok (.bipush 24, 2) := by decide +kernel
theorem dX12_formalHere_100 : decode cX12_formalHere 100 = .ok (.invokevirtual 356, 3) := by decide +kernel
theorem dX12_formalHere_103 : decode cX12_formalHere 103 = .ok (.ifCond .eq 12, 3) := by decide +kernel
theorem dX12_formalHere_106 : decode cX12_formalHere 106 = .ok (.aload_n 0, 1) := by decide +kernel
theorem dX12_formalHere_107 : decode cX12_formalHere 107 = .ok (.bipush 25, 2) := by decide +kernel
theorem dX12_formalHere_109 : decode cX12_formalHere 109 = .ok (.invokevirtual 362, 3) := by decide +kernel
theorem dX12_formalHere_112 : decode cX12_formalHere 112 = .ok (.ifCond .ne 5, 3) := by decide +kernel
theorem dX12_formalHere_115 : decode cX12_formalHere 115 = .ok (.iconst 0, 1) := by decide +kernel
theorem dX12_formalHere_116 : decode cX12_formalHere 116 = .ok (.ireturn, 1) := by decide +kernel
theorem dX12_formalHere_117 : decode cX12_formalHere 117 = .ok (.aload_n 0, 1) := by decide +kernel
theorem dX12_formalHere_118 : decode cX12_formalHere 118 = .ok (.iload_n 3, 1) := by decide +kernel
theorem dX12_formalHere_119 : decode cX12_formalHere 119 = .ok (.iload 4, 2) := by decide +kernel
theorem dX12_formalHere_121 : decode cX12_formalHere 121 = .ok (.ifCond .eq 7, 3) := by decide +kernel
theorem dX12_formalHere_124 : decode cX12_formalHere 124 = .ok (.iconst 2, 1) := by decide +kernel
theorem dX12_formalHere_125 : decode cX12_formalHere 125 = .ok (.goto 4, 3) := by decide +kernel
theorem dX12_formalHere_128 : decode cX12_formalHere 128 = .ok (.iconst 1, 1) := by decide +kernel
theorem dX12_formalHere_129 : decode cX12_formalHere 129 = .ok (.iload_n 2, 1) := by decide +kernel
theorem dX12_formalHere_130 : decode cX12_formalHere 130 = .ok (.aload_n 0, 1) := by decide +kernel
theorem dX12_formalHere_131 : decode cX12_formalHere 131 = .ok (.getfield 386, 3) := by decide +kernel
theorem dX12_formalHere_134 : decode cX12_formalHere 134 = .ok (.iload 4, 2) := by decide +kernel
theorem dX12_formalHere_136 : decode cX12_formalHere 136 = .ok (.ifCond .eq 7, 3) := by decide +kernel
theorem dX12_formalHere_139 : decode cX12_formalHere 139 = .ok (.iconst (-1), 1) := by decide +kernel
theorem dX12_formalHere_140 : decode cX12_formalHere 140 = .ok (.goto 4, 3) := by decide +kernel
theorem dX12_formalHere_143 : decode cX12_formalHere 143 = .ok (.iconst 1, 1) := by decide +kernel
theorem dX12_formalHere_144 : decode cX12_formalHere 144 = .ok (.iconst 1, 1) := by decide +kernel
theorem dX12_formalHere_145 : decode cX12_formalHere 145 = .ok (.invokevirtual 338, 3) := by decide +kernel
theorem dX12_formalHere_148 : decode cX12_formalHere 148 = .ok (.aload_n 0, 1) := by decide +kernel
theorem dX12_formalHere_149 : decode cX12_formalHere 149 = .ok (.dup, 1) := by decide +kernel
theorem dX12_formalHere_150 : decode cX12_formalHere 150 = .ok (.getfield 386, 3) := by decide +kernel
theorem dX12_formalHere_153 : decode cX12_formalHere 153 = .ok (.iload 4, 2) := by decide +kernel
theorem dX12_formalHere_155 : decode cX12_formalHere 155 = .ok (.ifCond .eq 7, 3) := by decide +kernel
theorem dX12_formalHere_158 : decode cX12_formalHere 158 = .ok (.iconst 2, 1) := by decide +kernel
theorem dX12_formalHere_159 : decode cX12_formalHere 159 = .ok (.goto 4, 3) := by decide +kernel
theorem dX12_formalHere_162 : decode cX12_formalHere 162 = .ok (.iconst 1, 1) := by decide +kernel
theorem dX12_formalHere_163 : decode cX12_formalHere 163 = .ok (.iadd, 1) := by decide +kernel
theorem dX12_formalHere_164 : decode cX12_formalHere 164 = .ok (.putfield 386, 3) := by decide +kernel
theorem dX12_formalHere_167 : decode cX12_formalHere 167 = .ok (.iload 4, 2) := by decide +kernel
theorem dX12_formalHere_169 : decode cX12_formalHere 169 = .ok (.ifCond .ne 7, 3) := by decide +kernel
theorem dX12_formalHere_172 : decode cX12_formalHere 172 = .ok (.iconst 0, 1) := by decide +kernel
theorem dX12_formalHere_173 : decode cX12_formalHere 173 = .ok (.goto 12, 3) := by decide +kernel
theorem dX12_formalHere_176 : decode cX12_formalHere 176 = .ok (.iload_n 2, 1) := by decide +kernel
theorem dX12_formalHere_177 : decode cX12_formalHere 177 = .ok (.ifCond .eq 7, 3) := by decide +kernel
theorem dX12_formalHere_180 : decode cX12_formalHere 180 = .ok (.iconst 2, 1) := by decide +kernel
theorem dX12_formalHere_181 : decode cX12_formalHere 181 = .ok (.goto 4, 3) := by decide +kernel
theorem dX12_formalHere_184 : decode cX12_formalHere 184 = .ok (.iconst 1, 1) := by decide +kernel
theorem dX12_formalHere_185 : decode cX12_formalHere 185 = .ok (.ireturn, 1) := by decide +kernel
theorem dX12_block_0 : decode cX12_block 0 = .ok (.aload_n 0, 1) := by decide +kernel
theorem dX12_block_1 : decode cX12_block 1 = .ok (.bipush 26, 2) := by decide +kernel
theorem dX12_block_3 : decode cX12_block 3 = .ok (.invokevirtual 356, 3) := by decide +kernel
theorem dX12_block_6 : decode cX12_block 6 = .ok (.ifCond .ne 5, 3) := by decide +kernel
theorem dX12_block_9 : decode cX12_block 9 = .ok (.iconst 0, 1) := by decide +kernel
theorem dX12_block_10 : decode cX12_block 10 = .ok (.ireturn, 1) := by decide +kernel
theorem dX12_block_11 : decode cX12_block 11 = .ok (.aload_n 0, 1) := by decide +kernel
theorem dX12_block_12 : decode cX12_block 12 = .ok (.getfield 230, 3) := by decide +kernel
theorem dX12_block_15 : decode cX12_block 15 = .ok (.ifCond .ne 20, 3) := by decide +kernel
theorem dX12_block_18 : decode cX12_block 18 = .ok (.aload_n 0, 1) := by decide +kernel
theorem dX12_block_19 : decode cX12_block 19 = .ok (.bipush 27, 2) := by decide +kernel
theorem dX12_block_21 : decode cX12_block 21 = .ok (.invokevirtual 257, 3) := by decide +kernel
theorem dX12_block_24 : decode cX12_block 24 = .ok (.ifCond .ne 11, 3) := by decide +kernel
theorem dX12_block_27 : decode cX12_block 27 = .ok (.aload_n 0, 1) := by decide +kernel
theorem dX12_block_28 : decode cX12_block 28 = .ok (.invokevirtual 408, 3) := by decide +kernel
theorem dX12_block_31 : decode cX12_block 31 = .ok (.pop, 1) := by decide +kernel
theorem dX12_block_32 : decode cX12_block 32 = .ok (.goto (-21), 3) := by decide +kernel
theorem dX12_block_35 : decode cX12_block 35 = .ok (.aload_n 0, 1) := by decide +kernel
theorem dX12_block_36 : decode cX12_block 36 = .ok (.bipush 27, 2) := by decide +kernel
theorem dX12_block_38 : decode cX12_block 38 = .ok (.invokevirtual 362, 3) := by decide +kernel
theorem dX12_block_41 : decode cX12_block 41 = .ok (.ireturn, 1) := by decide +kernel
theorem dX12_scoped_0 : decode cX12_scoped 0 = .ok (.aload_n 0, 1) := by decide +kernel
theorem dX12_scoped_1 : decode cX12_scoped 1 = .ok (.getfield 282, 3) := by decide +kernel
theorem dX12_scoped_4 : decode cX12_scoped 4 = .ok (.istore_n 1, 1) := by decide +kernel
theorem dX12_scoped_5 : decode cX12_scoped 5 = .ok (.aload_n 0, 1) := by decide +kernel
theorem dX12_scoped_6 : decode cX12_scoped 6 = .ok (.invokevirtual 392, 3) := by decide +kernel
theorem dX12_scoped_9 : decode cX12_scoped 9 = .ok (.aload_n 0, 1) := by decide +kernel
theorem dX12_scoped_10 : decode cX12_scoped 10 = .ok (.invokevirtual 408, 3) := by decide +kernel
theorem dX12_scoped_13 : decode cX12_scoped 13 = .ok (.istore_n 2, 1) := by decide +kernel
theorem dX12_scoped_14 : decode cX12_scoped 14 = .ok (.aload_n 0, 1) := by decide +kernel
theorem dX12_scoped_15 : decode cX12_scoped 15 = .ok (.iload_n 1, 1) := by decide +kernel
theorem dX12_scoped_16 : decode cX12_scoped 16 = .ok (.invokevirtual 405, 3) := by decide +kernel
theorem dX12_scoped_19 : decode cX12_scoped 19 = .ok (.iload_n 2, 1) := by decide +kernel
theorem dX12_scoped_20 : decode cX12_scoped 20 = .ok (.ireturn, 1) := by decide +kernel
theorem dX12_statement_0 : decode cX12_statement 0 = .ok (.aload_n 0, 1) := by decide +kernel
theorem dX12_statement_1 : decode cX12_statement 1 = .ok (.bipush 26, 2) := by decide +kernel
theorem dX12_statement_3 : decode cX12_statement 3 = .ok (.invokevirtual 257, 3) := by decide +kernel
theorem dX12_statement_6 : decode cX12_statement 6 = .ok (.ifCond .eq 24, 3) := by decide +kernel
theorem dX12_statement_9 : decode cX12_statement 9 = .ok (.aload_n 0, 1) := by decide +kernel
theorem dX12_statement_10 : decode cX12_statement 10 = .ok (.getfield 282, 3) := by decide +kernel
theorem dX12_statement_13 : decode cX12_statement 13 = .ok (.istore_n 1, 1) := by decide +kernel
theorem dX12_statement_14 : decode cX12_statement 14 = .ok (.aload_n 0, 1) := by decide +kernel
theorem dX12_statement_15 : decode cX12_statement 15 = .ok (.invokevirtual 392, 3) := by decide +kernel
theorem dX12_statement_18 : decode cX12_statement 18 = .ok (.aload_n 0, 1) := by decide +kernel
theorem dX12_statement_19 : decode cX12_statement 19 = .ok (.invokevirtual 398, 3) := by decide +kernel
theorem dX12_statement_22 : decode cX12_statement 22 = .ok (.istore_n 2, 1) := by decide +kernel
theorem dX12_statement_23 : decode cX12_statement 23 = .ok (.aload_n 0, 1) := by decide +kernel
theorem dX12_statement_24 : decode cX12_statement 24 = .ok (.iload_n 1, 1) := by decide +kernel
theorem dX12_statement_25 : decode cX12_statement 25 = .ok (.invokevirtual 405, 3) := by decide +kernel
theorem dX12_statement_28 : decode cX12_statement 28 = .ok (.iload_n 2, 1) := by decide +kernel
theorem dX12_statement_29 : decode cX12_statement 29 = .ok (.ireturn, 1) := by decide +kernel
theorem dX12_statement_30 : decode cX12_statement 30 = .ok (.aload_n 0, 1) := by decide +kernel
theorem dX12_statement_31 : decode cX12_statement 31 = .ok (.bipush 29, 2) := by decide +kernel
theorem dX12_statement_33 : decode cX12_statement 33 = .ok (.invokevirtual 257, 3) := by decide +kernel
theorem dX12_statement_36 : decode cX12_statement 36 = .ok (.ifCond .eq 10, 3) := by decide +kernel
theorem dX12_statement_39 : decode cX12_statement 39 = .ok (.aload_n 0, 1) := by decide +kernel
theorem dX12_statement_40 : decode cX12_statement 40 = .ok (.bipush 29, 2) := by decide +kernel
theorem dX12_statement_42 : decode cX12_statement 42 = .ok (.invokevirtual 273, 3) := by decide +kernel
theorem dX12_statement_45 : decode cX12_statement 45 = .ok (.ireturn, 1) := by decide +kernel
theorem dX12_statement_46 : decode cX12_statement 46 = .ok (.aload_n 0, 1) := by decide +kernel
theorem dX12_statement_47 : decode cX12_statement 47 = .ok (.getfield 16, 3) := by decide +kernel
theorem dX12_statement_50 : decode cX12_statement 50 = .ok (.aload_n 0, 1) := by decide +kernel
theorem dX12_statement_51 : decode cX12_statement 51 = .ok (.getfield 233, 3) := by decide +kernel
theorem dX12_statement_54 : decode cX12_statement 54 = .ok (.iaload, 1) := by decide +kernel
theorem dX12_statement_55 : decode cX12_statement 55 = .ok (.iconst 1, 1) := by decide +kernel
theorem dX12_statement_56 : decode cX12_statement 56 = .ok (.if_icmp .ne 25, 3) := by decide +kernel
theorem dX12_statement_59 : decode cX12_statement 59 = .ok (.aload_n 0, 1) := by decide +kernel
theorem dX12_statement_60 : decode cX12_statement 60 = .ok (.invokevirtual 411, 3) := by decide +kernel
theorem dX12_statement_63 : decode cX12_statement 63 = .ok (.ifCond .eq 16, 3) := by decide +kernel
theorem dX12_statement_66 : decode cX12_statement 66 = .ok (.aload_n 0, 1) := by decide +kernel
theorem dX12_statement_67 : decode cX12_statement 67 = .ok (.bipush 29, 2) := by decide +kernel
theorem dX12_statement_69 : decode cX12_statement 69 = .ok (.invokevirtual 273, 3) := by decide +kernel
theorem dX12_statement_72 : decode cX12_statement 72 = .ok (.ifCond .eq 7, 3) := by decide +kernel
theorem dX12_statement_75 : decode cX12_statement 75 = .ok (.iconst 1, 1) := by decide +kernel
theorem dX12_statement_76 : decode cX12_statement 76 = .ok (.goto 4, 3) := by decide +kernel
theorem dX12_statement_79 : decode cX12_statement 79 = .ok (.iconst 0, 1) := by decide +kernel
theorem dX12_statement_80 : decode cX12_statement 80 = .ok (.ireturn, 1) := by decide +kernel
theorem dX12_statement_81 : decode cX12_statement 81 = .ok (.aload_n 0, 1) := by decide +kernel
theorem dX12_statement_82 : decode cX12_statement 82 = .ok (.getfield 16, 3) := by decide +kernel
theorem dX12_statement_85 : decode cX12_statement 85 = .ok (.aload_n 0, 1) := by decide +kernel
theorem dX12_statement_86 : decode cX12_statement 86 = .ok (.getfield 233, 3) := by decide +kernel
theorem dX12_statement_89 : decode cX12_statement 89 = .ok (.iaload, 1) := by decide +kernel
theorem dX12_statement_90 : decode cX12_statement 90 = .ok (.iconst 2, 1) := by decide +kernel
theorem dX12_statement_91 : decode cX12_statement 91 = .ok (.if_icmp .eq 9, 3) := by decide +kernel
theorem dX12_statement_94 : decode cX12_statement 94 = .ok (.aload_n 0, 1) := by decide +kernel
theorem dX12_statement_95 : decode cX12_statement 95 = .ok (.iconst 2, 1) := by decide +kernel
theorem dX12_statement_96 : decode cX12_statement 96 = .ok (.invokevirtual 260, 3) := by decide +kernel
theorem dX12_statement_99 : decode cX12_statement 99 = .ok (.ireturn, 1) := by decide +kernel
theorem dX12_statement_100 : decode cX12_statement 100 = .ok (.aload_n 0, 1) := by decide +kernel
theorem dX12_statement_101 : decode cX12_statement 101 = .ok (.getfield 19, 3) := by decide +kernel
theorem dX12_statement_104 : decode cX12_statement 104 = .ok (.aload_n 0, 1) := by decide +kernel
theorem dX12_statement_105 : decode cX12_statement 105 = .ok (.getfield 233, 3) := by decide +kernel
theorem dX12_statement_108 : decode cX12_statement 108 = .ok (.iaload, 1) := by decide +kernel
theorem dX12_statement_109 : decode cX12_statement 109 = .ok (.tableswitch 197 0 14 #[75, 75, 197, 197, 98, 197, 103, 108, 113, 118, 118, 123, 128, 197, 128], 75) := by decide +kernel
theorem dX12_statement_184 : decode cX12_statement 184 = .ok (.aload_n 0, 1) := by decide +kernel
theorem dX12_statement_185 : decode cX12_statement 185 = .ok (.iconst 1, 1) := by decide +kernel
theorem dX12_statement_186 : decode cX12_statement 186 = .ok (.invokevirtual 414, 3) := by decide +kernel
theorem dX12_statement_189 : decode cX12_statement 189 = .ok (.ifCond .eq 16, 3) := by decide +kernel
theorem dX12_statement_192 : decode cX12_statement 192 = .ok (.aload_n 0, 1) := by decide +kernel
theorem dX12_statement_193 : decode cX12_statement 193 = .ok (.bipush 29, 2) := by decide +kernel
theorem dX12_statement_195 : decode cX12_statement 195 = .ok (.invokevirtual 273, 3) := by decide +kernel
theorem dX12_statement_198 : decode cX12_statement 198 = .ok (.ifCond .eq 7, 3) := by decide +kernel
theorem dX12_statement_201 : decode cX12_statement 201 = .ok (.iconst 1, 1) := by decide +kernel
theorem dX12_statement_202 : decode cX12_statement 202 = .ok (.goto 4, 3) := by decide +kernel
theorem dX12_statement_205 : decode cX12_statement 205 = .ok (.iconst 0, 1) := by decide +kernel
theorem dX12_statement_206 : decode cX12_statement 206 = .ok (.ireturn, 1) := by decide +kernel
theorem dX12_statement_207 : decode cX12_statement 207 = .ok (.aload_n 0, 1) := by decide +kernel
theorem dX12_statement_208 : decode cX12_statement 208 = .ok (.invokevirtual 418, 3) := by decide +kernel
theorem dX12_statement_211 : decode cX12_statement 211 = .ok (.ireturn, 1) := by decide +kernel
theorem dX12_statement_212 : decode cX12_statement 212 = .ok (.aload_n 0, 1) := by decide +kernel
theorem dX12_statement_213 : decode cX12_statement 213 = .ok (.invokevirtual 421, 3) := by decide +kernel
theorem dX12_statement_216 : decode cX12_statement 216 = .ok (.ireturn, 1) := by decide +kernel
theorem dX12_statement_217 : decode cX12_statement 217 = .ok (.aload_n 0, 1) := by decide +kernel
theorem dX12_statement_218 : decode cX12_statement 218 = .ok (.invokevirtual 424, 3) := by decide +kernel
theorem dX12_statement_221 : decode cX12_statement 221 = .ok (.ireturn, 1) := by decide +kernel
theorem dX12_statement_222 : decode cX12_statement 222 = .ok (.aload_n 0, 1) := by decide +kernel
theorem dX12_statement_223 : decode cX12_statement 223 = .ok (.invokevirtual 427, 3) := by decide +kernel
theorem dX12_statement_226 : decode cX12_statement 226 = .ok (.ireturn, 1) := by decide +kernel
theorem dX12_statement_227 : decode cX12_statement 227 = .ok (.aload_n 0, 1) := by decide +kernel
theorem dX12_statement_228 : decode cX12_statement 228 = .ok (.invokevirtual 430, 3) := by decide +kernel
theorem dX12_statement_231 : decode cX12_statement 231 = .ok (.ireturn, 1) := by decide +kernel
theorem dX12_statement_232 : decode cX12_statement 232 = .ok (.aload_n 0, 1) := by decide +kernel
theorem dX12_statement_233 : decode cX12_statement 233 = .ok (.invokevirtual 433, 3) := by decide +kernel
theorem dX12_statement_236 : decode cX12_statement 236 = .ok (.ireturn, 1) := by decide +kernel
theorem dX12_statement_237 : decode cX12_statement 237 = .ok (.aload_n 0, 1) := by decide +kernel
theorem dX12_statement_238 : decode cX12_statement 238 = .ok (.bipush 12, 2) := by decide +kernel
theorem dX12_statement_240 : decode cX12_statement 240 = .ok (.invokevirtual 263, 3) := by decide +kernel
theorem dX12_statement_243 : decode cX12_statement 243 = .ok (.ifCond .eq 8, 3) := by decide +kernel
theorem dX12_statement_246 : decode cX12_statement 246 = .ok (.bipush 19, 2) := by decide +kernel
theorem dX12_statement_248 : decode cX12_statement 248 = .ok (.goto 5, 3) := by decide +kernel
theorem dX12_statement_251 : decode cX12_statement 251 = .ok (.bipush 20, 2) := by decide +kernel
theorem dX12_statement_253 : decode cX12_statement 253 = .ok (.istore_n 1, 1) := by decide +kernel
theorem dX12_statement_254 : decode cX12_statement 254 = .ok (.aload_n 0, 1) := by decide +kernel
theorem dX12_statement_255 : decode cX12_statement 255 = .ok (.dup, 1) := by decide +kernel
theorem dX12_statement_256 : decode cX12_statement 256 = .ok (.getfield 233, 3) := by decide +kernel
theorem dX12_statement_259 : decode cX12_statement 259 = .ok (.iconst 1, 1) := by decide +kernel
theorem dX12_statement_260 : decode cX12_statement 260 = .ok (.iadd, 1) := by decide +kernel
theorem dX12_statement_261 : decode cX12_statement 261 = .ok (.putfield 233, 3) := by decide +kernel
theorem dX12_statement_264 : decode cX12_statement 264 = .ok (.aload_n 0, 1) := by decide +kernel
theorem dX12_statement_265 : decode cX12_statement 265 = .ok (.bipush 22, 2) := by decide +kernel
theorem dX12_statement_267 : decode cX12_statement 267 = .ok (.invokevirtual 356, 3) := by decide +kernel
theorem dX12_statement_270 : decode cX12_statement 270 = .ok (.ifCond .eq 19, 3) := by decide +kernel
theorem dX12_statement_273 : decode cX12_statement 273 = .ok (.aload_n 0, 1) := by decide +kernel
theorem dX12_statement_274 : decode cX12_statement 274 = .ok (.invokevirtual 368, 3) := by decide +kernel
theorem dX12_statement_277 : decode cX12_statement 277 = .ok (.ifCond .eq 12, 3) := by decide +kernel
theorem dX12_statement_280 : decode cX12_statement 280 = .ok (.aload_n 0, 1) := by decide +kernel
theorem dX12_statement_281 : decode cX12_statement 281 = .ok (.bipush 23, 2) := by decide +kernel
theorem dX12_statement_283 : decode cX12_statement 283 = .ok (.invokevirtual 362, 3) := by decide +kernel
theorem dX12_statement_286 : decode cX12_statement 286 = .ok (.ifCond .ne 5, 3) := by decide +kernel
theorem dX12_statement_289 : decode cX12_statement 289 = .ok (.iconst 0, 1) := by decide +kernel
theorem dX12_statement_290 : decode cX12_statement 290 = .ok (.ireturn, 1) := by decide +kernel
theorem dX12_statement_291 : decode cX12_statement 291 = .ok (.aload_n 0, 1) := by decide +kernel
theorem dX12_statement_292 : decode cX12_statement 292 = .ok (.iload_n 1, 1) := by decide +kernel
theorem dX12_statement_293 : decode cX12_statement 293 = .ok (.iconst 0, 1) := by decide +kernel
theorem dX12_statement_294 : decode cX12_statement 294 = .ok (.iconst 0, 1) := by decide +kernel
theorem dX12_statement_295 : decode cX12_statement 295 = .ok (.invokevirtual 401, 3) := by decide +kernel
theorem dX12_statement_298 : decode cX12_statement 298 = .ok (.pop, 1) := by decide +kernel
theorem dX12_statement_299 : decode cX12_statement 299 = .ok (.aload_n 0, 1) := by decide +kernel
theorem dX12_statement_300 : decode cX12_statement 300 = .ok (.bipush 29, 2) := by decide +kernel
theorem dX12_statement_302 : decode cX12_statement 302 = .ok (.invokevirtual 273, 3) := by decide +kernel
theorem dX12_statement_305 : decode cX12_statement 305 = .ok (.ireturn, 1) := by decide +kernel
theorem dX12_statement_306 : decode cX12_statement 306 = .ok (.aload_n 0, 1) := by decide +kernel
theorem dX12_statement_307 : decode cX12_statement 307 = .ok (.iconst 2, 1) := by decide +kernel
theorem dX12_statement_308 : decode cX12_statement 308 = .ok (.invokevirtual 260, 3) := by decide +kernel
theorem dX12_statement_311 : decode cX12_statement 311 = .ok (.ireturn, 1) := by decide +kernel
theorem dX12_tellHere_0 : decode cX12_tellHere 0 = .ok (.aload_n 0, 1) := by decide +kernel
theorem dX12_tellHere_1 : decode cX12_tellHere 1 = .ok (.iconst 1, 1) := by decide +kernel
theorem dX12_tellHere_2 : decode cX12_tellHere 2 = .ok (.invokevirtual 263, 3) := by decide +kernel
theorem dX12_tellHere_5 : decode cX12_tellHere 5 = .ok (.istore_n 2, 1) := by decide +kernel
theorem dX12_tellHere_6 : decode cX12_tellHere 6 = .ok (.aload_n 0, 1) := by decide +kernel
theorem dX12_tellHere_7 : decode cX12_tellHere 7 = .ok (.dup, 1) := by decide +kernel
theorem dX12_tellHere_8 : decode cX12_tellHere 8 = .ok (.getfield 233, 3) := by decide +kernel
theorem dX12_tellHere_11 : decode cX12_tellHere 11 = .ok (.iconst 1, 1) := by decide +kernel
theorem dX12_tellHere_12 : decode cX12_tellHere 12 = .ok (.iadd, 1) := by decide +kernel
theorem dX12_tellHere_13 : decode cX12_tellHere 13 = .ok (.putfield 233, 3) := by decide +kernel
theorem dX12_tellHere_16 : decode cX12_tellHere 16 = .ok (.aload_n 0, 1) := by decide +kernel
theorem dX12_tellHere_17 : decode cX12_tellHere 17 = .ok (.invokevirtual 317, 3) := by decide +kernel
theorem dX12_tellHere_20 : decode cX12_tellHere 20 = .ok (.istore_n 3, 1) := by decide +kernel
theorem dX12_tellHere_21 : decode cX12_tellHere 21 = .ok (.aload_n 0, 1) := by decide +kernel
theorem dX12_tellHere_22 : decode cX12_tellHere 22 = .ok (.getfield 230, 3) := by decide +kernel
theorem dX12_tellHere_25 : decode cX12_tellHere 25 = .ok (.ifCond .le 5, 3) := by decide +kernel
theorem dX12_tellHere_28 : decode cX12_tellHere 28 = .ok (.iconst 0, 1) := by decide +kernel
theorem dX12_tellHere_29 : decode cX12_tellHere 29 = .ok (.ireturn, 1) := by decide +kernel
theorem dX12_tellHere_30 : decode cX12_tellHere 30 = .ok (.iload_n 1, 1) := by decide +kernel
theorem dX12_tellHere_31 : decode cX12_tellHere 31 = .ok (.ifCond .eq 179, 3) := by decide +kernel
theorem dX12_tellHere_34 : decode cX12_tellHere 34 = .ok (.iload_n 2, 1) := by decide +kernel
theorem dX12_tellHere_35 : decode cX12_tellHere 35 = .ok (.ifCond .ne 12, 3) := by decide +kernel
theorem dX12_tellHere_38 : decode cX12_tellHere 38 = .ok (.aload_n 0, 1) := by decide +kernel
theorem dX12_tellHere_39 : decode cX12_tellHere 39 = .ok (.bipush 24, 2) := by decide +kernel
theorem dX12_tellHere_41 : decode cX12_tellHere 41 = .ok (.invokevirtual 257, 3) := by decide +kernel
theorem dX12_tellHere_44 : decode cX12_tellHere 44 = .ok (.ifCond .eq 166, 3) := by decide +kernel
theorem dX12_tellHere_47 : decode cX12_tellHere 47 = .ok (.aload_n 0, 1) := by decide +kernel
theorem dX12_tellHere_48 : decode cX12_tellHere 48 = .ok (.iload_n 3, 1) := by decide +kernel
theorem dX12_tellHere_49 : decode cX12_tellHere 49 = .ok (.invokevirtual 348, 3) := by decide +kernel
theorem dX12_tellHere_52 : decode cX12_tellHere 52 = .ok (.aload_n 0, 1) := by decide +kernel
theorem dX12_tellHere_53 : decode cX12_tellHere 53 = .ok (.bipush 24, 2) := by decide +kernel
theorem dX12_tellHere_55 : decode cX12_tellHere 55 = .ok (.invokevirtual 356, 3) := by decide +kernel
theorem dX12_tellHere_58 : decode cX12_tellHere 58 = .ok (.ifCond .ne 5, 3) := by decide +kernel
theorem dX12_tellHere_61 : decode cX12_tellHere 61 = .ok (.iconst 0, 1) := by decide +kernel
theorem dX12_tellHere_62 : decode cX12_tellHere 62 = .ok (.ireturn, 1) := by decide +kernel
theorem dX12_tellHere_63 : decode cX12_tellHere 63 = .ok (.aload_n 0, 1) := by decide +kernel
theorem dX12_tellHere_64 : decode cX12_tellHere 64 = .ok (.invokevirtual 359, 3) := by decide +kernel
theorem dX12_tellHere_67 : decode cX12_tellHere 67 = .ok (.istore 4, 2) := by decide +kernel
theorem dX12_tellHere_69 : decode cX12_tellHere 69 = .ok (.aload_n 0, 1) := by decide +kernel
theorem dX12_tellHere_70 : decode cX12_tellHere 70 = .ok (.bipush 25, 2) := by decide +kernel
theorem dX12_tellHere_72 : decode cX12_tellHere 72 = .ok (.invokevirtual 362, 3) := by decide +kernel
theorem dX12_tellHere_75 : decode cX12_tellHere 75 = .ok (.ifCond .ne 5, 3) := by decide +kernel
theorem dX12_tellHere_78 : decode cX12_tellHere 78 = .ok (.iconst 0, 1) := by decide +kernel
theorem dX12_tellHere_79 : decode cX12_tellHere 79 = .ok (.ireturn, 1) := by decide +kernel
theorem dX12_tellHere_80 : decode cX12_tellHere 80 = .ok (.aload_n 0, 1) := by decide +kernel
theorem dX12_tellHere_81 : decode cX12_tellHere 81 = .ok (.dup, 1) := by decide +kernel
theorem dX12_tellHere_82 : decode cX12_tellHere 82 = .ok (.getfield 383, 3) := by decide +kernel
theorem dX12_tellHere_85 : decode cX12_tellHere 85 = .ok (.iload 4, 2) := by decide +kernel
theorem dX12_tellHere_87 : decode cX12_tellHere 87 = .ok (.iconst (-1), 1) := by decide +kernel
theorem dX12_tellHere_88 : decode cX12_tellHere 88 = .ok (.if_icmp .ne 7, 3) := by decide +kernel
theorem dX12_tellHere_91 : decode cX12_tellHere 91 = .ok (.iconst 0, 1) := by decide +kernel
theorem dX12_tellHere_92 : decode cX12_tellHere 92 = .ok (.goto 18, 3) := by decide +kernel
theorem dX12_tellHere_95 : decode cX12_tellHere 95 = .ok (.iload_n 2, 1) := by decide +kernel
theorem dX12_tellHere_96 : decode cX12_tellHere 96 = .ok (.ifCond .eq 12, 3) := by decide +kernel
theorem dX12_tellHere_99 : decode cX12_tellHere 99 = .ok (.iload 4, 2) := by decide +kernel
theorem dX12_tellHere_101 : decode cX12_tellHere 101 = .ok (.iconst 3, 1) := by decide +kernel
theorem dX12_tellHere_102 : decode cX12_tellHere 102 = .ok (.iadd, 1) := by decide +kernel
theorem dX12_tellHere_103 : decode cX12_tellHere 103 = .ok (.iconst 4, 1) := by decide +kernel
theorem dX12_tellHere_104 : decode cX12_tellHere 104 = .ok (.idiv, 1) := by decide +kernel
theorem dX12_tellHere_105 : decode cX12_tellHere 105 = .ok (.goto 5, 3) := by decide +kernel
theorem dX12_tellHere_108 : decode cX12_tellHere 108 = .ok (.iload 4, 2) := by decide +kernel
theorem dX12_tellHere_110 : decode cX12_tellHere 110 = .ok (.iadd, 1) := by decide +kernel
theorem dX12_tellHere_111 : decode cX12_tellHere 111 = .ok (.putfield 383, 3) := by decide +kernel
theorem dX12_tellHere_114 : decode cX12_tellHere 114 = .ok (.aload_n 0, 1) := by decide +kernel
theorem dX12_tellHere_115 : decode cX12_tellHere 115 = .ok (.getfield 383, 3) := by decide +kernel
theorem dX12_tellHere_118 : decode cX12_tellHere 118 = .ok (.sipush 200, 3) := by decide +kernel
theorem dX12_tellHere_121 : decode cX12_tellHere 121 = .ok (.if_icmp .le 15, 3) := by decide +kernel
theorem dX12_tellHere_124 : decode cX12_tellHere 124 = .ok (.aload_n 0, 1) := by decide +kernel
theorem dX12_tellHere_125 : decode cX12_tellHere 125 = .ok (.bipush 11, 2) := by decide +kernel
theorem dX12_tellHere_127 : decode cX12_tellHere 127 = .ok (.aload_n 0, 1) := by decide +kernel
theorem dX12_tellHere_128 : decode cX12_tellHere 128 = .ok (.getfield 22, 3) := by decide +kernel
theorem dX12_tellHere_131 : decode cX12_tellHere 131 = .ok (.iload_n 3, 1) := by decide +kernel
theorem dX12_tellHere_132 : decode cX12_tellHere 132 = .ok (.iaload, 1) := by decide +kernel
theorem dX12_tellHere_133 : decode cX12_tellHere 133 = .ok (.invokevirtual 352, 3) := by decide +kernel
theorem dX12_tellHere_136 : decode cX12_tellHere 136 = .ok (.iload 4, 2) := by decide +kernel
theorem dX12_tellHere_138 : decode cX12_tellHere 138 = .ok (.iconst (-1), 1) := by decide +kernel
theorem dX12_tellHere_139 : decode cX12_tellHere 139 = .ok (.if_icmp .eq 13, 3) := by decide +kernel
theorem dX12_tellHere_142 : decode cX12_tellHere 142 = .ok (.aload_n 0, 1) := by decide +kernel
theorem dX12_tellHere_143 : decode cX12_tellHere 143 = .ok (.getfield 383, 3) := by decide +kernel
theorem dX12_tellHere_146 : decode cX12_tellHere 146 = .ok (.sipush 200, 3) := by decide +kernel
theorem dX12_tellHere_149 : decode cX12_tellHere 149 = .ok (.if_icmp .le 7, 3) := by decide +kernel
theorem dX12_tellHere_152 : decode cX12_tellHere 152 = .ok (.iconst 0, 1) := by decide +kernel
theorem dX12_tellHere_153 : decode cX12_tellHere 153 = .ok (.goto 5, 3) := by decide +kernel
theorem dX12_tellHere_156 : decode cX12_tellHere 156 = .ok (.iload 4, 2) := by decide +kernel
theorem dX12_tellHere_158 : decode cX12_tellHere 158 = .ok (.istore 5, 2) := by decide +kernel
theorem dX12_tellHere_160 : decode cX12_tellHere 160 = .ok (.aload_n 0, 1) := by decide +kernel
theorem dX12_tellHere_161 : decode cX12_tellHere 161 = .ok (.bipush 22, 2) := by decide +kernel
theorem dX12_tellHere_163 : decode cX12_tellHere 163 = .ok (.aload_n 0, 1) := by decide +kernel
theorem dX12_tellHere_164 : decode cX12_tellHere 164 = .ok (.getfield 386, 3) := by decide +kernel
theorem dX12_tellHere_167 : decode cX12_tellHere 167 = .ok (.iload 5, 2) := by decide +kernel
theorem dX12_tellHere_169 : decode cX12_tellHere 169 = .ok (.invokevirtual 401, 3) := by decide +kernel
theorem dX12_tellHere_172 : decode cX12_tellHere 172 = .ok (.pop, 1) := by decide +kernel
theorem dX12_tellHere_173 : decode cX12_tellHere 173 = .ok (.aload_n 0, 1) := by decide +kernel
theorem dX12_tellHere_174 : decode cX12_tellHere 174 = .ok (.iload_n 3, 1) := by decide +kernel
theorem dX12_tellHere_175 : decode cX12_tellHere 175 = .ok (.iconst 2, 1) := by decide +kernel
theorem dX12_tellHere_176 : decode cX12_tellHere 176 = .ok (.iload_n 2, 1) := by decide +kernel
theorem dX12_tellHere_177 : decode cX12_tellHere 177 = .ok (.aload_n 0, 1) := by decide +kernel
theorem dX12_tellHere_178 : decode cX12_tellHere 178 = .ok (.getfield 386, 3) := by decide +kernel
theorem dX12_tellHere_181 : decode cX12_tellHere 181 = .ok (.iload 4, 2) := by decide +kernel
theorem dX12_tellHere_183 : decode cX12_tellHere 183 = .ok (.iconst (-1), 1) := by decide +kernel
theorem dX12_tellHere_184 : decode cX12_tellHere 184 = .ok (.if_icmp .ne 7, 3) := by decide +kernel
theorem dX12_tellHere_187 : decode cX12_tellHere 187 = .ok (.iconst 1, 1) := by decide +kernel
theorem dX12_tellHere_188 : decode cX12_tellHere 188 = .ok (.goto 5, 3) := by decide +kernel
theorem dX12_tellHere_191 : decode cX12_tellHere 191 = .ok (.iload 4, 2) := by decide +kernel
theorem dX12_tellHere_193 : decode cX12_tellHere 193 = .ok (.iconst 1, 1) := by decide +kernel
theorem dX12_tellHere_194 : decode cX12_tellHere 194 = .ok (.invokevirtual 338, 3) := by decide +kernel
theorem dX12_tellHere_197 : decode cX12_tellHere 197 = .ok (.aload_n 0, 1) := by decide +kernel
theorem dX12_tellHere_198 : decode cX12_tellHere 198 = .ok (.dup, 1) := by decide +kernel
theorem dX12_tellHere_199 : decode cX12_tellHere 199 = .ok (.getfield 386, 3) := by decide +kernel
theorem dX12_tellHere_202 : decode cX12_tellHere 202 = .ok (.iload 5, 2) := by decide +kernel
theorem dX12_tellHere_204 : decode cX12_tellHere 204 = .ok (.iadd, 1) := by decide +kernel
theorem dX12_tellHere_205 : decode cX12_tellHere 205 = .ok (.putfield 386, 3) := by decide +kernel
theorem dX12_tellHere_208 : decode cX12_tellHere 208 = .ok (.iconst 1, 1) := by decide +kernel
theorem dX12_tellHere_209 : decode cX12_tellHere 209 = .ok (.ireturn, 1) := by decide +kernel
theorem dX12_tellHere_210 : decode cX12_tellHere 210 = .ok (.aload_n 0, 1) := by decide +kernel
theorem dX12_tellHere_211 : decode cX12_tellHere 211 = .ok (.iload_n 3, 1) := by decide +kernel
theorem dX12_tellHere_212 : decode cX12_tellHere 212 = .ok (.invokevirtual 348, 3) := by decide +kernel
theorem dX12_tellHere_215 : decode cX12_tellHere 215 = .ok (.aload_n 0, 1) := by decide +kernel
theorem dX12_tellHere_216 : decode cX12_tellHere 216 = .ok (.dup, 1) := by decide +kernel
theorem dX12_tellHere_217 : decode cX12_tellHere 217 = .ok (.getfield 383, 3) := by decide +kernel
theorem dX12_tellHere_220 : decode cX12_tellHere 220 = .ok (.iconst 1, 1) := by decide +kernel
theorem dX12_tellHere_221 : decode cX12_tellHere 221 = .ok (.iadd, 1) := by decide +kernel
theorem dX12_tellHere_222 : decode cX12_tellHere 222 = .ok (.putfield 383, 3) := by decide +kernel
theorem dX12_tellHere_225 : decode cX12_tellHere 225 = .ok (.aload_n 0, 1) := by decide +kernel
theorem dX12_tellHere_226 : decode cX12_tellHere 226 = .ok (.getfield 383, 3) := by decide +kernel
theorem dX12_tellHere_229 : decode cX12_tellHere 229 = .ok (.sipush 200, 3) := by decide +kernel
theorem dX12_tellHere_232 : decode cX12_tellHere 232 = .ok (.if_icmp .le 15, 3) := by decide +kernel
theorem dX12_tellHere_235 : decode cX12_tellHere 235 = .ok (.aload_n 0, 1) := by decide +kernel
theorem dX12_tellHere_236 : decode cX12_tellHere 236 = .ok (.bipush 11, 2) := by decide +kernel
theorem dX12_tellHere_238 : decode cX12_tellHere 238 = .ok (.aload_n 0, 1) := by decide +kernel
theorem dX12_tellHere_239 : decode cX12_tellHere 239 = .ok (.getfield 22, 3) := by decide +kernel
theorem dX12_tellHere_242 : decode cX12_tellHere 242 = .ok (.iload_n 3, 1) := by decide +kernel
theorem dX12_tellHere_243 : decode cX12_tellHere 243 = .ok (.iaload, 1) := by decide +kernel
theorem dX12_tellHere_244 : decode cX12_tellHere 244 = .ok (.invokevirtual 352, 3) := by decide +kernel
theorem dX12_tellHere_247 : decode cX12_tellHere 247 = .ok (.aload_n 0, 1) := by decide +kernel
theorem dX12_tellHere_248 : decode cX12_tellHere 248 = .ok (.getfield 386, 3) := by decide +kernel
theorem dX12_tellHere_251 : decode cX12_tellHere 251 = .ok (.istore 4, 2) := by decide +kernel
theorem dX12_tellHere_253 : decode cX12_tellHere 253 = .ok (.aload_n 0, 1) := by decide +kernel
theorem dX12_tellHere_254 : decode cX12_tellHere 254 = .ok (.dup, 1) := by decide +kernel
theorem dX12_tellHere_255 : decode cX12_tellHere 255 = .ok (.getfield 386, 3) := by decide +kernel
theorem dX12_tellHere_258 : decode cX12_tellHere 258 = .ok (.aload_n 0, 1) := by decide +kernel
theorem dX12_tellHere_259 : decode cX12_tellHere 259 = .ok (.getfield 383, 3) := by decide +kernel
theorem dX12_tellHere_262 : decode cX12_tellHere 262 = .ok (.sipush 200, 3) := by decide +kernel
theorem dX12_tellHere_265 : decode cX12_tellHere 265 = .ok (.if_icmp .le 7, 3) := by decide +kernel
theorem dX12_tellHere_268 : decode cX12_tellHere 268 = .ok (.iconst 0, 1) := by decide +kernel
theorem dX12_tellHere_269 : decode cX12_tellHere 269 = .ok (.goto 4, 3) := by decide +kernel
theorem dX12_tellHere_272 : decode cX12_tellHere 272 = .ok (.iconst 1, 1) := by decide +kernel
theorem dX12_tellHere_273 : decode cX12_tellHere 273 = .ok (.iadd, 1) := by decide +kernel
theorem dX12_tellHere_274 : decode cX12_tellHere 274 = .ok (.putfield 386, 3) := by decide +kernel
theorem dX12_tellHere_277 : decode cX12_tellHere 277 = .ok (.aload_n 0, 1) := by decide +kernel
theorem dX12_tellHere_278 : decode cX12_tellHere 278 = .ok (.bipush 32, 2) := by decide +kernel
