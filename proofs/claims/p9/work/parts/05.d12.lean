theorem dX6_element_6 : decode cX6_element 6 = .ok (.invokevirtual 79, 3) := by decide +kernel
theorem dX6_element_9 : decode cX6_element 9 = .ok (.istore 4, 2) := by decide +kernel
theorem dX6_element_11 : decode cX6_element 11 = .ok (.aload_n 0, 1) := by decide +kernel
theorem dX6_element_12 : decode cX6_element 12 = .ok (.invokevirtual 91, 3) := by decide +kernel
theorem dX6_element_15 : decode cX6_element 15 = .ok (.istore 5, 2) := by decide +kernel
theorem dX6_element_17 : decode cX6_element 17 = .ok (.iload 5, 2) := by decide +kernel
theorem dX6_element_19 : decode cX6_element 19 = .ok (.ifCond .lt 9, 3) := by decide +kernel
theorem dX6_element_22 : decode cX6_element 22 = .ok (.iload 5, 2) := by decide +kernel
theorem dX6_element_24 : decode cX6_element 24 = .ok (.iload_n 2, 1) := by decide +kernel
theorem dX6_element_25 : decode cX6_element 25 = .ok (.if_icmp .lt 17, 3) := by decide +kernel
theorem dX6_element_28 : decode cX6_element 28 = .ok (.aload_n 0, 1) := by decide +kernel
theorem dX6_element_29 : decode cX6_element 29 = .ok (.iload 4, 2) := by decide +kernel
theorem dX6_element_31 : decode cX6_element 31 = .ok (.putfield 30, 3) := by decide +kernel
theorem dX6_element_34 : decode cX6_element 34 = .ok (.aload_n 0, 1) := by decide +kernel
theorem dX6_element_35 : decode cX6_element 35 = .ok (.iconst 5, 1) := by decide +kernel
theorem dX6_element_36 : decode cX6_element 36 = .ok (.invokevirtual 121, 3) := by decide +kernel
theorem dX6_element_39 : decode cX6_element 39 = .ok (.goto 13, 3) := by decide +kernel
theorem dX6_element_42 : decode cX6_element 42 = .ok (.aload_n 0, 1) := by decide +kernel
theorem dX6_element_43 : decode cX6_element 43 = .ok (.iload_n 1, 1) := by decide +kernel
theorem dX6_element_44 : decode cX6_element 44 = .ok (.iload_n 3, 1) := by decide +kernel
theorem dX6_element_45 : decode cX6_element 45 = .ok (.ishl, 1) := by decide +kernel
theorem dX6_element_46 : decode cX6_element 46 = .ok (.iload 5, 2) := by decide +kernel
theorem dX6_element_48 : decode cX6_element 48 = .ok (.iadd, 1) := by decide +kernel
theorem dX6_element_49 : decode cX6_element 49 = .ok (.invokevirtual 83, 3) := by decide +kernel
theorem dX6_element_52 : decode cX6_element 52 = .ok (.return_, 1) := by decide +kernel
theorem dX6_keepByte_0 : decode cX6_keepByte 0 = .ok (.iload_n 1, 1) := by decide +kernel
theorem dX6_keepByte_1 : decode cX6_keepByte 1 = .ok (.iconst 2, 1) := by decide +kernel
theorem dX6_keepByte_2 : decode cX6_keepByte 2 = .ok (.ishr, 1) := by decide +kernel
theorem dX6_keepByte_3 : decode cX6_keepByte 3 = .ok (.istore_n 3, 1) := by decide +kernel
theorem dX6_keepByte_4 : decode cX6_keepByte 4 = .ok (.iload_n 1, 1) := by decide +kernel
theorem dX6_keepByte_5 : decode cX6_keepByte 5 = .ok (.iconst 3, 1) := by decide +kernel
theorem dX6_keepByte_6 : decode cX6_keepByte 6 = .ok (.iand, 1) := by decide +kernel
theorem dX6_keepByte_7 : decode cX6_keepByte 7 = .ok (.bipush 8, 2) := by decide +kernel
theorem dX6_keepByte_9 : decode cX6_keepByte 9 = .ok (.imul, 1) := by decide +kernel
theorem dX6_keepByte_10 : decode cX6_keepByte 10 = .ok (.istore 4, 2) := by decide +kernel
theorem dX6_keepByte_12 : decode cX6_keepByte 12 = .ok (.aload_n 0, 1) := by decide +kernel
theorem dX6_keepByte_13 : decode cX6_keepByte 13 = .ok (.iload_n 3, 1) := by decide +kernel
theorem dX6_keepByte_14 : decode cX6_keepByte 14 = .ok (.aload_n 0, 1) := by decide +kernel
theorem dX6_keepByte_15 : decode cX6_keepByte 15 = .ok (.iload_n 3, 1) := by decide +kernel
theorem dX6_keepByte_16 : decode cX6_keepByte 16 = .ok (.invokevirtual 172, 3) := by decide +kernel
theorem dX6_keepByte_19 : decode cX6_keepByte 19 = .ok (.sipush 255, 3) := by decide +kernel
theorem dX6_keepByte_22 : decode cX6_keepByte 22 = .ok (.iload 4, 2) := by decide +kernel
theorem dX6_keepByte_24 : decode cX6_keepByte 24 = .ok (.ishl, 1) := by decide +kernel
theorem dX6_keepByte_25 : decode cX6_keepByte 25 = .ok (.iconst (-1), 1) := by decide +kernel
theorem dX6_keepByte_26 : decode cX6_keepByte 26 = .ok (.ixor, 1) := by decide +kernel
theorem dX6_keepByte_27 : decode cX6_keepByte 27 = .ok (.iand, 1) := by decide +kernel
theorem dX6_keepByte_28 : decode cX6_keepByte 28 = .ok (.iload_n 2, 1) := by decide +kernel
theorem dX6_keepByte_29 : decode cX6_keepByte 29 = .ok (.iload 4, 2) := by decide +kernel
theorem dX6_keepByte_31 : decode cX6_keepByte 31 = .ok (.ishl, 1) := by decide +kernel
theorem dX6_keepByte_32 : decode cX6_keepByte 32 = .ok (.ior, 1) := by decide +kernel
theorem dX6_keepByte_33 : decode cX6_keepByte 33 = .ok (.invokevirtual 137, 3) := by decide +kernel
theorem dX6_keepByte_36 : decode cX6_keepByte 36 = .ok (.return_, 1) := by decide +kernel
theorem dX6_pass_0 : decode cX6_pass 0 = .ok (.iload_n 1, 1) := by decide +kernel
theorem dX6_pass_1 : decode cX6_pass 1 = .ok (.bipush 83, 2) := by decide +kernel
theorem dX6_pass_3 : decode cX6_pass 3 = .ok (.if_icmp .ne 36, 3) := by decide +kernel
theorem dX6_pass_6 : decode cX6_pass 6 = .ok (.aload_n 0, 1) := by decide +kernel
theorem dX6_pass_7 : decode cX6_pass 7 = .ok (.aload_n 0, 1) := by decide +kernel
theorem dX6_pass_8 : decode cX6_pass 8 = .ok (.aload_n 0, 1) := by decide +kernel
theorem dX6_pass_9 : decode cX6_pass 9 = .ok (.getfield 140, 3) := by decide +kernel
theorem dX6_pass_12 : decode cX6_pass 12 = .ok (.iload_n 2, 1) := by decide +kernel
theorem dX6_pass_13 : decode cX6_pass 13 = .ok (.iadd, 1) := by decide +kernel
theorem dX6_pass_14 : decode cX6_pass 14 = .ok (.invokevirtual 172, 3) := by decide +kernel
theorem dX6_pass_17 : decode cX6_pass 17 = .ok (.invokevirtual 83, 3) := by decide +kernel
theorem dX6_pass_20 : decode cX6_pass 20 = .ok (.aload_n 0, 1) := by decide +kernel
theorem dX6_pass_21 : decode cX6_pass 21 = .ok (.aload_n 0, 1) := by decide +kernel
theorem dX6_pass_22 : decode cX6_pass 22 = .ok (.aload_n 0, 1) := by decide +kernel
theorem dX6_pass_23 : decode cX6_pass 23 = .ok (.getfield 140, 3) := by decide +kernel
theorem dX6_pass_26 : decode cX6_pass 26 = .ok (.iload_n 2, 1) := by decide +kernel
theorem dX6_pass_27 : decode cX6_pass 27 = .ok (.iadd, 1) := by decide +kernel
theorem dX6_pass_28 : decode cX6_pass 28 = .ok (.iconst 1, 1) := by decide +kernel
theorem dX6_pass_29 : decode cX6_pass 29 = .ok (.iadd, 1) := by decide +kernel
theorem dX6_pass_30 : decode cX6_pass 30 = .ok (.invokevirtual 172, 3) := by decide +kernel
theorem dX6_pass_33 : decode cX6_pass 33 = .ok (.invokevirtual 83, 3) := by decide +kernel
theorem dX6_pass_36 : decode cX6_pass 36 = .ok (.goto 28, 3) := by decide +kernel
theorem dX6_pass_39 : decode cX6_pass 39 = .ok (.aload_n 0, 1) := by decide +kernel
theorem dX6_pass_40 : decode cX6_pass 40 = .ok (.iload_n 1, 1) := by decide +kernel
theorem dX6_pass_41 : decode cX6_pass 41 = .ok (.bipush 81, 2) := by decide +kernel
theorem dX6_pass_43 : decode cX6_pass 43 = .ok (.if_icmp .ne 7, 3) := by decide +kernel
theorem dX6_pass_46 : decode cX6_pass 46 = .ok (.iload_n 2, 1) := by decide +kernel
theorem dX6_pass_47 : decode cX6_pass 47 = .ok (.goto 9, 3) := by decide +kernel
theorem dX6_pass_50 : decode cX6_pass 50 = .ok (.aload_n 0, 1) := by decide +kernel
theorem dX6_pass_51 : decode cX6_pass 51 = .ok (.getfield 140, 3) := by decide +kernel
theorem dX6_pass_54 : decode cX6_pass 54 = .ok (.iload_n 2, 1) := by decide +kernel
theorem dX6_pass_55 : decode cX6_pass 55 = .ok (.iadd, 1) := by decide +kernel
theorem dX6_pass_56 : decode cX6_pass 56 = .ok (.invokevirtual 83, 3) := by decide +kernel
theorem dX6_pass_59 : decode cX6_pass 59 = .ok (.aload_n 0, 1) := by decide +kernel
theorem dX6_pass_60 : decode cX6_pass 60 = .ok (.iload_n 3, 1) := by decide +kernel
theorem dX6_pass_61 : decode cX6_pass 61 = .ok (.invokevirtual 83, 3) := by decide +kernel
theorem dX6_pass_64 : decode cX6_pass 64 = .ok (.return_, 1) := by decide +kernel
theorem dX6_jump_0 : decode cX6_jump 0 = .ok (.iconst 1, 1) := by decide +kernel
theorem dX6_jump_1 : decode cX6_jump 1 = .ok (.istore_n 3, 1) := by decide +kernel
theorem dX6_jump_2 : decode cX6_jump 2 = .ok (.iload_n 1, 1) := by decide +kernel
theorem dX6_jump_3 : decode cX6_jump 3 = .ok (.bipush 84, 2) := by decide +kernel
theorem dX6_jump_5 : decode cX6_jump 5 = .ok (.if_icmp .eq 64, 3) := by decide +kernel
theorem dX6_jump_8 : decode cX6_jump 8 = .ok (.aload_n 0, 1) := by decide +kernel
theorem dX6_jump_9 : decode cX6_jump 9 = .ok (.invokevirtual 91, 3) := by decide +kernel
theorem dX6_jump_12 : decode cX6_jump 12 = .ok (.ifCond .eq 7, 3) := by decide +kernel
theorem dX6_jump_15 : decode cX6_jump 15 = .ok (.iconst 1, 1) := by decide +kernel
theorem dX6_jump_16 : decode cX6_jump 16 = .ok (.goto 4, 3) := by decide +kernel
theorem dX6_jump_19 : decode cX6_jump 19 = .ok (.iconst 0, 1) := by decide +kernel
theorem dX6_jump_20 : decode cX6_jump 20 = .ok (.istore 4, 2) := by decide +kernel
theorem dX6_jump_22 : decode cX6_jump 22 = .ok (.iload 4, 2) := by decide +kernel
theorem dX6_jump_24 : decode cX6_jump 24 = .ok (.iload_n 1, 1) := by decide +kernel
theorem dX6_jump_25 : decode cX6_jump 25 = .ok (.bipush 85, 2) := by decide +kernel
theorem dX6_jump_27 : decode cX6_jump 27 = .ok (.if_icmp .eq 9, 3) := by decide +kernel
theorem dX6_jump_30 : decode cX6_jump 30 = .ok (.iload_n 1, 1) := by decide +kernel
theorem dX6_jump_31 : decode cX6_jump 31 = .ok (.bipush 87, 2) := by decide +kernel
theorem dX6_jump_33 : decode cX6_jump 33 = .ok (.if_icmp .ne 7, 3) := by decide +kernel
theorem dX6_jump_36 : decode cX6_jump 36 = .ok (.iconst 1, 1) := by decide +kernel
theorem dX6_jump_37 : decode cX6_jump 37 = .ok (.goto 4, 3) := by decide +kernel
theorem dX6_jump_40 : decode cX6_jump 40 = .ok (.iconst 0, 1) := by decide +kernel
theorem dX6_jump_41 : decode cX6_jump 41 = .ok (.if_icmp .ne 7, 3) := by decide +kernel
theorem dX6_jump_44 : decode cX6_jump 44 = .ok (.iconst 1, 1) := by decide +kernel
theorem dX6_jump_45 : decode cX6_jump 45 = .ok (.goto 4, 3) := by decide +kernel
theorem dX6_jump_48 : decode cX6_jump 48 = .ok (.iconst 0, 1) := by decide +kernel
theorem dX6_jump_49 : decode cX6_jump 49 = .ok (.istore_n 3, 1) := by decide +kernel
theorem dX6_jump_50 : decode cX6_jump 50 = .ok (.iload_n 3, 1) := by decide +kernel
theorem dX6_jump_51 : decode cX6_jump 51 = .ok (.ifCond .eq 18, 3) := by decide +kernel
theorem dX6_jump_54 : decode cX6_jump 54 = .ok (.iload_n 1, 1) := by decide +kernel
theorem dX6_jump_55 : decode cX6_jump 55 = .ok (.bipush 87, 2) := by decide +kernel
theorem dX6_jump_57 : decode cX6_jump 57 = .ok (.if_icmp .lt 12, 3) := by decide +kernel
theorem dX6_jump_60 : decode cX6_jump 60 = .ok (.aload_n 0, 1) := by decide +kernel
theorem dX6_jump_61 : decode cX6_jump 61 = .ok (.iload 4, 2) := by decide +kernel
theorem dX6_jump_63 : decode cX6_jump 63 = .ok (.invokestatic 168, 3) := by decide +kernel
theorem dX6_jump_66 : decode cX6_jump 66 = .ok (.invokevirtual 83, 3) := by decide +kernel
theorem dX6_jump_69 : decode cX6_jump 69 = .ok (.iload_n 3, 1) := by decide +kernel
theorem dX6_jump_70 : decode cX6_jump 70 = .ok (.ifCond .eq 8, 3) := by decide +kernel
theorem dX6_jump_73 : decode cX6_jump 73 = .ok (.aload_n 0, 1) := by decide +kernel
theorem dX6_jump_74 : decode cX6_jump 74 = .ok (.iload_n 2, 1) := by decide +kernel
theorem dX6_jump_75 : decode cX6_jump 75 = .ok (.putfield 70, 3) := by decide +kernel
theorem dX6_jump_78 : decode cX6_jump 78 = .ok (.return_, 1) := by decide +kernel
theorem dX6_act_0 : decode cX6_act 0 = .ok (.iload_n 1, 1) := by decide +kernel
theorem dX6_act_1 : decode cX6_act 1 = .ok (.lookupswitch 129 #[(15, 75), (16, 82), (17, 96), (89, 51), (90, 67)], 51) := by decide +kernel
theorem dX6_act_52 : decode cX6_act 52 = .ok (.aload_n 0, 1) := by decide +kernel
theorem dX6_act_53 : decode cX6_act 53 = .ok (.invokevirtual 189, 3) := by decide +kernel
theorem dX6_act_56 : decode cX6_act 56 = .ok (.ifCond .ne 87, 3) := by decide +kernel
theorem dX6_act_59 : decode cX6_act 59 = .ok (.aload_n 0, 1) := by decide +kernel
theorem dX6_act_60 : decode cX6_act 60 = .ok (.iconst 1, 1) := by decide +kernel
theorem dX6_act_61 : decode cX6_act 61 = .ok (.iload_n 2, 1) := by decide +kernel
theorem dX6_act_62 : decode cX6_act 62 = .ok (.invokevirtual 193, 3) := by decide +kernel
theorem dX6_act_65 : decode cX6_act 65 = .ok (.goto 78, 3) := by decide +kernel
theorem dX6_act_68 : decode cX6_act 68 = .ok (.aload_n 0, 1) := by decide +kernel
theorem dX6_act_69 : decode cX6_act 69 = .ok (.iload_n 2, 1) := by decide +kernel
theorem dX6_act_70 : decode cX6_act 70 = .ok (.invokevirtual 196, 3) := by decide +kernel
theorem dX6_act_73 : decode cX6_act 73 = .ok (.goto 70, 3) := by decide +kernel
theorem dX6_act_76 : decode cX6_act 76 = .ok (.aload_n 0, 1) := by decide +kernel
theorem dX6_act_77 : decode cX6_act 77 = .ok (.invokevirtual 199, 3) := by decide +kernel
theorem dX6_act_80 : decode cX6_act 80 = .ok (.goto 63, 3) := by decide +kernel
theorem dX6_act_83 : decode cX6_act 83 = .ok (.aload_n 0, 1) := by decide +kernel
theorem dX6_act_84 : decode cX6_act 84 = .ok (.getfield 26, 3) := by decide +kernel
theorem dX6_act_87 : decode cX6_act 87 = .ok (.aload_n 0, 1) := by decide +kernel
theorem dX6_act_88 : decode cX6_act 88 = .ok (.invokevirtual 91, 3) := by decide +kernel
theorem dX6_act_91 : decode cX6_act 91 = .ok (.invokevirtual 202, 3) := by decide +kernel
theorem dX6_act_94 : decode cX6_act 94 = .ok (.goto 49, 3) := by decide +kernel
theorem dX6_act_97 : decode cX6_act 97 = .ok (.aload_n 0, 1) := by decide +kernel
theorem dX6_act_98 : decode cX6_act 98 = .ok (.getfield 26, 3) := by decide +kernel
theorem dX6_act_101 : decode cX6_act 101 = .ok (.getfield 207, 3) := by decide +kernel
theorem dX6_act_104 : decode cX6_act 104 = .ok (.ifCond .le 17, 3) := by decide +kernel
theorem dX6_act_107 : decode cX6_act 107 = .ok (.aload_n 0, 1) := by decide +kernel
theorem dX6_act_108 : decode cX6_act 108 = .ok (.aload_n 0, 1) := by decide +kernel
theorem dX6_act_109 : decode cX6_act 109 = .ok (.getfield 26, 3) := by decide +kernel
theorem dX6_act_112 : decode cX6_act 112 = .ok (.invokevirtual 210, 3) := by decide +kernel
theorem dX6_act_115 : decode cX6_act 115 = .ok (.invokevirtual 83, 3) := by decide +kernel
theorem dX6_act_118 : decode cX6_act 118 = .ok (.goto 25, 3) := by decide +kernel
theorem dX6_act_121 : decode cX6_act 121 = .ok (.aload_n 0, 1) := by decide +kernel
theorem dX6_act_122 : decode cX6_act 122 = .ok (.iconst 2, 1) := by decide +kernel
theorem dX6_act_123 : decode cX6_act 123 = .ok (.iload_n 2, 1) := by decide +kernel
theorem dX6_act_124 : decode cX6_act 124 = .ok (.invokevirtual 193, 3) := by decide +kernel
theorem dX6_act_127 : decode cX6_act 127 = .ok (.goto 16, 3) := by decide +kernel
theorem dX6_act_130 : decode cX6_act 130 = .ok (.aload_n 0, 1) := by decide +kernel
theorem dX6_act_131 : decode cX6_act 131 = .ok (.aload_n 0, 1) := by decide +kernel
theorem dX6_act_132 : decode cX6_act 132 = .ok (.invokevirtual 91, 3) := by decide +kernel
theorem dX6_act_135 : decode cX6_act 135 = .ok (.putfield 43, 3) := by decide +kernel
theorem dX6_act_138 : decode cX6_act 138 = .ok (.aload_n 0, 1) := by decide +kernel
theorem dX6_act_139 : decode cX6_act 139 = .ok (.iconst 4, 1) := by decide +kernel
theorem dX6_act_140 : decode cX6_act 140 = .ok (.invokevirtual 121, 3) := by decide +kernel
theorem dX6_act_143 : decode cX6_act 143 = .ok (.return_, 1) := by decide +kernel
theorem dX6_takesTurn_0 : decode cX6_takesTurn 0 = .ok (.aload_n 0, 1) := by decide +kernel
theorem dX6_takesTurn_1 : decode cX6_takesTurn 1 = .ok (.getfield 102, 3) := by decide +kernel
theorem dX6_takesTurn_4 : decode cX6_takesTurn 4 = .ok (.ifCond .gt 5, 3) := by decide +kernel
theorem dX6_takesTurn_7 : decode cX6_takesTurn 7 = .ok (.iconst 0, 1) := by decide +kernel
theorem dX6_takesTurn_8 : decode cX6_takesTurn 8 = .ok (.ireturn, 1) := by decide +kernel
theorem dX6_takesTurn_9 : decode cX6_takesTurn 9 = .ok (.aload_n 0, 1) := by decide +kernel
theorem dX6_takesTurn_10 : decode cX6_takesTurn 10 = .ok (.dup, 1) := by decide +kernel
theorem dX6_takesTurn_11 : decode cX6_takesTurn 11 = .ok (.getfield 102, 3) := by decide +kernel
theorem dX6_takesTurn_14 : decode cX6_takesTurn 14 = .ok (.iconst 1, 1) := by decide +kernel
theorem dX6_takesTurn_15 : decode cX6_takesTurn 15 = .ok (.isub, 1) := by decide +kernel
theorem dX6_takesTurn_16 : decode cX6_takesTurn 16 = .ok (.putfield 102, 3) := by decide +kernel
theorem dX6_takesTurn_19 : decode cX6_takesTurn 19 = .ok (.aload_n 0, 1) := by decide +kernel
theorem dX6_takesTurn_20 : decode cX6_takesTurn 20 = .ok (.dup, 1) := by decide +kernel
theorem dX6_takesTurn_21 : decode cX6_takesTurn 21 = .ok (.getfield 40, 3) := by decide +kernel
theorem dX6_takesTurn_24 : decode cX6_takesTurn 24 = .ok (.iconst 1, 1) := by decide +kernel
theorem dX6_takesTurn_25 : decode cX6_takesTurn 25 = .ok (.iadd, 1) := by decide +kernel
theorem dX6_takesTurn_26 : decode cX6_takesTurn 26 = .ok (.putfield 40, 3) := by decide +kernel
theorem dX6_takesTurn_29 : decode cX6_takesTurn 29 = .ok (.iconst 1, 1) := by decide +kernel
theorem dX6_takesTurn_30 : decode cX6_takesTurn 30 = .ok (.ireturn, 1) := by decide +kernel
theorem dX6_call_0 : decode cX6_call 0 = .ok (.aload_n 0, 1) := by decide +kernel
theorem dX6_call_1 : decode cX6_call 1 = .ok (.invokevirtual 79, 3) := by decide +kernel
theorem dX6_call_4 : decode cX6_call 4 = .ok (.istore_n 2, 1) := by decide +kernel
theorem dX6_call_5 : decode cX6_call 5 = .ok (.aload_n 0, 1) := by decide +kernel
theorem dX6_call_6 : decode cX6_call 6 = .ok (.invokevirtual 79, 3) := by decide +kernel
theorem dX6_call_9 : decode cX6_call 9 = .ok (.istore_n 3, 1) := by decide +kernel
theorem dX6_call_10 : decode cX6_call 10 = .ok (.aload_n 0, 1) := by decide +kernel
theorem dX6_call_11 : decode cX6_call 11 = .ok (.invokevirtual 189, 3) := by decide +kernel
theorem dX6_call_14 : decode cX6_call 14 = .ok (.ifCond .ne 12, 3) := by decide +kernel
theorem dX6_call_17 : decode cX6_call 17 = .ok (.aload_n 0, 1) := by decide +kernel
theorem dX6_call_18 : decode cX6_call 18 = .ok (.iconst 1, 1) := by decide +kernel
theorem dX6_call_19 : decode cX6_call 19 = .ok (.iload_n 1, 1) := by decide +kernel
theorem dX6_call_20 : decode cX6_call 20 = .ok (.invokevirtual 193, 3) := by decide +kernel
theorem dX6_call_23 : decode cX6_call 23 = .ok (.goto 21, 3) := by decide +kernel
theorem dX6_call_26 : decode cX6_call 26 = .ok (.aload_n 0, 1) := by decide +kernel
theorem dX6_call_27 : decode cX6_call 27 = .ok (.getfield 22, 3) := by decide +kernel
theorem dX6_call_30 : decode cX6_call 30 = .ok (.iload_n 2, 1) := by decide +kernel
theorem dX6_call_31 : decode cX6_call 31 = .ok (.invokevirtual 117, 3) := by decide +kernel
theorem dX6_call_34 : decode cX6_call 34 = .ok (.ifCond .eq 10, 3) := by decide +kernel
theorem dX6_call_37 : decode cX6_call 37 = .ok (.aload_n 0, 1) := by decide +kernel
theorem dX6_call_38 : decode cX6_call 38 = .ok (.iload_n 2, 1) := by decide +kernel
theorem dX6_call_39 : decode cX6_call 39 = .ok (.iload_n 3, 1) := by decide +kernel
theorem dX6_call_40 : decode cX6_call 40 = .ok (.invokevirtual 127, 3) := by decide +kernel
theorem dX6_call_43 : decode cX6_call 43 = .ok (.pop, 1) := by decide +kernel
theorem dX6_call_44 : decode cX6_call 44 = .ok (.return_, 1) := by decide +kernel
theorem dX6_leave_0 : decode cX6_leave 0 = .ok (.aload_n 0, 1) := by decide +kernel
theorem dX6_leave_1 : decode cX6_leave 1 = .ok (.aload_n 0, 1) := by decide +kernel
theorem dX6_leave_2 : decode cX6_leave 2 = .ok (.getfield 140, 3) := by decide +kernel
theorem dX6_leave_5 : decode cX6_leave 5 = .ok (.putfield 34, 3) := by decide +kernel
theorem dX6_leave_8 : decode cX6_leave 8 = .ok (.aload_n 0, 1) := by decide +kernel
theorem dX6_leave_9 : decode cX6_leave 9 = .ok (.getfield 140, 3) := by decide +kernel
theorem dX6_leave_12 : decode cX6_leave 12 = .ok (.sipush 2000, 3) := by decide +kernel
theorem dX6_leave_15 : decode cX6_leave 15 = .ok (.if_icmp .ne 17, 3) := by decide +kernel
theorem dX6_leave_18 : decode cX6_leave 18 = .ok (.aload_n 0, 1) := by decide +kernel
theorem dX6_leave_19 : decode cX6_leave 19 = .ok (.aload_n 0, 1) := by decide +kernel
theorem dX6_leave_20 : decode cX6_leave 20 = .ok (.invokevirtual 91, 3) := by decide +kernel
theorem dX6_leave_23 : decode cX6_leave 23 = .ok (.putfield 43, 3) := by decide +kernel
theorem dX6_leave_26 : decode cX6_leave 26 = .ok (.aload_n 0, 1) := by decide +kernel
theorem dX6_leave_27 : decode cX6_leave 27 = .ok (.iconst 3, 1) := by decide +kernel
theorem dX6_leave_28 : decode cX6_leave 28 = .ok (.invokevirtual 121, 3) := by decide +kernel
theorem dX6_leave_31 : decode cX6_leave 31 = .ok (.return_, 1) := by decide +kernel
theorem dX6_leave_32 : decode cX6_leave 32 = .ok (.aload_n 0, 1) := by decide +kernel
theorem dX6_leave_33 : decode cX6_leave 33 = .ok (.aload_n 0, 1) := by decide +kernel
theorem dX6_leave_34 : decode cX6_leave 34 = .ok (.aload_n 0, 1) := by decide +kernel
theorem dX6_leave_35 : decode cX6_leave 35 = .ok (.getfield 140, 3) := by decide +kernel
theorem dX6_leave_38 : decode cX6_leave 38 = .ok (.invokevirtual 172, 3) := by decide +kernel
theorem dX6_leave_41 : decode cX6_leave 41 = .ok (.putfield 70, 3) := by decide +kernel
theorem dX6_leave_44 : decode cX6_leave 44 = .ok (.aload_n 0, 1) := by decide +kernel
theorem dX6_leave_45 : decode cX6_leave 45 = .ok (.aload_n 0, 1) := by decide +kernel
theorem dX6_leave_46 : decode cX6_leave 46 = .ok (.aload_n 0, 1) := by decide +kernel
theorem dX6_leave_47 : decode cX6_leave 47 = .ok (.getfield 140, 3) := by decide +kernel
theorem dX6_leave_50 : decode cX6_leave 50 = .ok (.iconst 1, 1) := by decide +kernel
theorem dX6_leave_51 : decode cX6_leave 51 = .ok (.iadd, 1) := by decide +kernel
theorem dX6_leave_52 : decode cX6_leave 52 = .ok (.invokevirtual 172, 3) := by decide +kernel
theorem dX6_leave_55 : decode cX6_leave 55 = .ok (.putfield 140, 3) := by decide +kernel
theorem dX6_leave_58 : decode cX6_leave 58 = .ok (.return_, 1) := by decide +kernel
theorem dX7_init_0 : decode cX7_init 0 = .ok (.aload_n 0, 1) := by decide +kernel
theorem dX7_init_1 : decode cX7_init 1 = .ok (.invokespecial 1, 3) := by decide +kernel
theorem dX7_init_4 : decode cX7_init 4 = .ok (.aload_n 0, 1) := by decide +kernel
theorem dX7_init_5 : decode cX7_init 5 = .ok (.sipush 500, 3) := by decide +kernel
theorem dX7_init_8 : decode cX7_init 8 = .ok (.newarray .int, 2) := by decide +kernel
theorem dX7_init_10 : decode cX7_init 10 = .ok (.putfield 9, 3) := by decide +kernel
theorem dX7_init_13 : decode cX7_init 13 = .ok (.aload_n 0, 1) := by decide +kernel
theorem dX7_init_14 : decode cX7_init 14 = .ok (.sipush 2000, 3) := by decide +kernel
theorem dX7_init_17 : decode cX7_init 17 = .ok (.newarray .int, 2) := by decide +kernel
theorem dX7_init_19 : decode cX7_init 19 = .ok (.putfield 13, 3) := by decide +kernel
theorem dX7_init_22 : decode cX7_init 22 = .ok (.return_, 1) := by decide +kernel
theorem dX7_forgetInput_0 : decode cX7_forgetInput 0 = .ok (.aload_n 0, 1) := by decide +kernel
theorem dX7_forgetInput_1 : decode cX7_forgetInput 1 = .ok (.iconst 0, 1) := by decide +kernel
theorem dX7_forgetInput_2 : decode cX7_forgetInput 2 = .ok (.putfield 16, 3) := by decide +kernel
theorem dX7_forgetInput_5 : decode cX7_forgetInput 5 = .ok (.aload_n 0, 1) := by decide +kernel
theorem dX7_forgetInput_6 : decode cX7_forgetInput 6 = .ok (.iconst 0, 1) := by decide +kernel
theorem dX7_forgetInput_7 : decode cX7_forgetInput 7 = .ok (.putfield 20, 3) := by decide +kernel
theorem dX7_forgetInput_10 : decode cX7_forgetInput 10 = .ok (.return_, 1) := by decide +kernel
theorem dX7_forgetOutput_0 : decode cX7_forgetOutput 0 = .ok (.aload_n 0, 1) := by decide +kernel
theorem dX7_forgetOutput_1 : decode cX7_forgetOutput 1 = .ok (.iconst 0, 1) := by decide +kernel
theorem dX7_forgetOutput_2 : decode cX7_forgetOutput 2 = .ok (.putfield 23, 3) := by decide +kernel
theorem dX7_forgetOutput_5 : decode cX7_forgetOutput 5 = .ok (.return_, 1) := by decide +kernel
theorem dX7_takes_0 : decode cX7_takes 0 = .ok (.aload_n 0, 1) := by decide +kernel
theorem dX7_takes_1 : decode cX7_takes 1 = .ok (.getfield 20, 3) := by decide +kernel
theorem dX7_takes_4 : decode cX7_takes 4 = .ok (.sipush 500, 3) := by decide +kernel
theorem dX7_takes_7 : decode cX7_takes 7 = .ok (.if_icmp .lt 5, 3) := by decide +kernel
theorem dX7_takes_10 : decode cX7_takes 10 = .ok (.iconst 0, 1) := by decide +kernel
theorem dX7_takes_11 : decode cX7_takes 11 = .ok (.ireturn, 1) := by decide +kernel
theorem dX7_takes_12 : decode cX7_takes 12 = .ok (.aload_n 0, 1) := by decide +kernel
theorem dX7_takes_13 : decode cX7_takes 13 = .ok (.getfield 9, 3) := by decide +kernel
theorem dX7_takes_16 : decode cX7_takes 16 = .ok (.aload_n 0, 1) := by decide +kernel
theorem dX7_takes_17 : decode cX7_takes 17 = .ok (.getfield 16, 3) := by decide +kernel
theorem dX7_takes_20 : decode cX7_takes 20 = .ok (.aload_n 0, 1) := by decide +kernel
theorem dX7_takes_21 : decode cX7_takes 21 = .ok (.getfield 20, 3) := by decide +kernel
theorem dX7_takes_24 : decode cX7_takes 24 = .ok (.iadd, 1) := by decide +kernel
theorem dX7_takes_25 : decode cX7_takes 25 = .ok (.sipush 500, 3) := by decide +kernel
theorem dX7_takes_28 : decode cX7_takes 28 = .ok (.irem, 1) := by decide +kernel
theorem dX7_takes_29 : decode cX7_takes 29 = .ok (.iload_n 1, 1) := by decide +kernel
theorem dX7_takes_30 : decode cX7_takes 30 = .ok (.iastore, 1) := by decide +kernel
theorem dX7_takes_31 : decode cX7_takes 31 = .ok (.aload_n 0, 1) := by decide +kernel
theorem dX7_takes_32 : decode cX7_takes 32 = .ok (.dup, 1) := by decide +kernel
theorem dX7_takes_33 : decode cX7_takes 33 = .ok (.getfield 20, 3) := by decide +kernel
theorem dX7_takes_36 : decode cX7_takes 36 = .ok (.iconst 1, 1) := by decide +kernel
theorem dX7_takes_37 : decode cX7_takes 37 = .ok (.iadd, 1) := by decide +kernel
theorem dX7_takes_38 : decode cX7_takes 38 = .ok (.putfield 20, 3) := by decide +kernel
theorem dX7_takes_41 : decode cX7_takes 41 = .ok (.iconst 1, 1) := by decide +kernel
theorem dX7_takes_42 : decode cX7_takes 42 = .ok (.ireturn, 1) := by decide +kernel
theorem dX7_handIn_0 : decode cX7_handIn 0 = .ok (.aload_n 0, 1) := by decide +kernel
theorem dX7_handIn_1 : decode cX7_handIn 1 = .ok (.getfield 20, 3) := by decide +kernel
theorem dX7_handIn_4 : decode cX7_handIn 4 = .ok (.ifCond .gt 5, 3) := by decide +kernel
theorem dX7_handIn_7 : decode cX7_handIn 7 = .ok (.iconst 0, 1) := by decide +kernel
theorem dX7_handIn_8 : decode cX7_handIn 8 = .ok (.ireturn, 1) := by decide +kernel
theorem dX7_handIn_9 : decode cX7_handIn 9 = .ok (.aload_n 0, 1) := by decide +kernel
theorem dX7_handIn_10 : decode cX7_handIn 10 = .ok (.getfield 9, 3) := by decide +kernel
theorem dX7_handIn_13 : decode cX7_handIn 13 = .ok (.aload_n 0, 1) := by decide +kernel
theorem dX7_handIn_14 : decode cX7_handIn 14 = .ok (.getfield 16, 3) := by decide +kernel
theorem dX7_handIn_17 : decode cX7_handIn 17 = .ok (.iaload, 1) := by decide +kernel
theorem dX7_handIn_18 : decode cX7_handIn 18 = .ok (.istore_n 1, 1) := by decide +kernel
theorem dX7_handIn_19 : decode cX7_handIn 19 = .ok (.aload_n 0, 1) := by decide +kernel
theorem dX7_handIn_20 : decode cX7_handIn 20 = .ok (.aload_n 0, 1) := by decide +kernel
theorem dX7_handIn_21 : decode cX7_handIn 21 = .ok (.getfield 16, 3) := by decide +kernel
theorem dX7_handIn_24 : decode cX7_handIn 24 = .ok (.iconst 1, 1) := by decide +kernel
theorem dX7_handIn_25 : decode cX7_handIn 25 = .ok (.iadd, 1) := by decide +kernel
theorem dX7_handIn_26 : decode cX7_handIn 26 = .ok (.sipush 500, 3) := by decide +kernel
theorem dX7_handIn_29 : decode cX7_handIn 29 = .ok (.irem, 1) := by decide +kernel
theorem dX7_handIn_30 : decode cX7_handIn 30 = .ok (.putfield 16, 3) := by decide +kernel
theorem dX7_handIn_33 : decode cX7_handIn 33 = .ok (.aload_n 0, 1) := by decide +kernel
theorem dX7_handIn_34 : decode cX7_handIn 34 = .ok (.dup, 1) := by decide +kernel
theorem dX7_handIn_35 : decode cX7_handIn 35 = .ok (.getfield 20, 3) := by decide +kernel
theorem dX7_handIn_38 : decode cX7_handIn 38 = .ok (.iconst 1, 1) := by decide +kernel
theorem dX7_handIn_39 : decode cX7_handIn 39 = .ok (.isub, 1) := by decide +kernel
theorem dX7_handIn_40 : decode cX7_handIn 40 = .ok (.putfield 20, 3) := by decide +kernel
theorem dX7_handIn_43 : decode cX7_handIn 43 = .ok (.iload_n 1, 1) := by decide +kernel
theorem dX7_handIn_44 : decode cX7_handIn 44 = .ok (.ireturn, 1) := by decide +kernel
theorem dX7_show_0 : decode cX7_show 0 = .ok (.aload_n 0, 1) := by decide +kernel
theorem dX7_show_1 : decode cX7_show 1 = .ok (.getfield 23, 3) := by decide +kernel
theorem dX7_show_4 : decode cX7_show 4 = .ok (.sipush 2000, 3) := by decide +kernel
theorem dX7_show_7 : decode cX7_show 7 = .ok (.if_icmp .ge 13, 3) := by decide +kernel
theorem dX7_show_10 : decode cX7_show 10 = .ok (.aload_n 0, 1) := by decide +kernel
theorem dX7_show_11 : decode cX7_show 11 = .ok (.getfield 13, 3) := by decide +kernel
theorem dX7_show_14 : decode cX7_show 14 = .ok (.aload_n 0, 1) := by decide +kernel
theorem dX7_show_15 : decode cX7_show 15 = .ok (.getfield 23, 3) := by decide +kernel
theorem dX7_show_18 : decode cX7_show 18 = .ok (.iload_n 1, 1) := by decide +kernel
theorem dX7_show_19 : decode cX7_show 19 = .ok (.iastore, 1) := by decide +kernel
theorem dX7_show_20 : decode cX7_show 20 = .ok (.aload_n 0, 1) := by decide +kernel
theorem dX7_show_21 : decode cX7_show 21 = .ok (.getfield 23, 3) := by decide +kernel
theorem dX7_show_24 : decode cX7_show 24 = .ok (.ldc 26, 2) := by decide +kernel
theorem dX7_show_26 : decode cX7_show 26 = .ok (.if_icmp .ge 13, 3) := by decide +kernel
theorem dX7_show_29 : decode cX7_show 29 = .ok (.aload_n 0, 1) := by decide +kernel
theorem dX7_show_30 : decode cX7_show 30 = .ok (.dup, 1) := by decide +kernel
theorem dX7_show_31 : decode cX7_show 31 = .ok (.getfield 23, 3) := by decide +kernel
theorem dX7_show_34 : decode cX7_show 34 = .ok (.iconst 1, 1) := by decide +kernel
theorem dX7_show_35 : decode cX7_show 35 = .ok (.iadd, 1) := by decide +kernel
theorem dX7_show_36 : decode cX7_show 36 = .ok (.putfield 23, 3) := by decide +kernel
theorem dX7_show_39 : decode cX7_show 39 = .ok (.return_, 1) := by decide +kernel
theorem dX7_shown_0 : decode cX7_shown 0 = .ok (.iload_n 1, 1) := by decide +kernel
theorem dX7_shown_1 : decode cX7_shown 1 = .ok (.ifCond .lt 18, 3) := by decide +kernel
theorem dX7_shown_4 : decode cX7_shown 4 = .ok (.iload_n 1, 1) := by decide +kernel
theorem dX7_shown_5 : decode cX7_shown 5 = .ok (.sipush 2000, 3) := by decide +kernel
theorem dX7_shown_8 : decode cX7_shown 8 = .ok (.if_icmp .ge 11, 3) := by decide +kernel
theorem dX7_shown_11 : decode cX7_shown 11 = .ok (.iload_n 1, 1) := by decide +kernel
theorem dX7_shown_12 : decode cX7_shown 12 = .ok (.aload_n 0, 1) := by decide +kernel
theorem dX7_shown_13 : decode cX7_shown 13 = .ok (.getfield 23, 3) := by decide +kernel
theorem dX7_shown_16 : decode cX7_shown 16 = .ok (.if_icmp .lt 7, 3) := by decide +kernel
theorem dX7_shown_19 : decode cX7_shown 19 = .ok (.iconst 0, 1) := by decide +kernel
theorem dX7_shown_20 : decode cX7_shown 20 = .ok (.goto 9, 3) := by decide +kernel
theorem dX7_shown_23 : decode cX7_shown 23 = .ok (.aload_n 0, 1) := by decide +kernel
theorem dX7_shown_24 : decode cX7_shown 24 = .ok (.getfield 13, 3) := by decide +kernel
theorem dX7_shown_27 : decode cX7_shown 27 = .ok (.iload_n 1, 1) := by decide +kernel
theorem dX7_shown_28 : decode cX7_shown 28 = .ok (.iaload, 1) := by decide +kernel
theorem dX7_shown_29 : decode cX7_shown 29 = .ok (.ireturn, 1) := by decide +kernel
theorem dX8_init_0 : decode cX8_init 0 = .ok (.aload_n 0, 1) := by decide +kernel
theorem dX8_init_1 : decode cX8_init 1 = .ok (.invokespecial 3, 3) := by decide +kernel
theorem dX8_init_4 : decode cX8_init 4 = .ok (.aload_n 0, 1) := by decide +kernel
theorem dX8_init_5 : decode cX8_init 5 = .ok (.sipush 450, 3) := by decide +kernel
theorem dX8_init_8 : decode cX8_init 8 = .ok (.newarray .int, 2) := by decide +kernel
theorem dX8_init_10 : decode cX8_init 10 = .ok (.putfield 11, 3) := by decide +kernel
theorem dX8_init_13 : decode cX8_init 13 = .ok (.aload_n 0, 1) := by decide +kernel
theorem dX8_init_14 : decode cX8_init 14 = .ok (.sipush 450, 3) := by decide +kernel
theorem dX8_init_17 : decode cX8_init 17 = .ok (.newarray .int, 2) := by decide +kernel
theorem dX8_init_19 : decode cX8_init 19 = .ok (.putfield 15, 3) := by decide +kernel
theorem dX8_init_22 : decode cX8_init 22 = .ok (.aload_n 0, 1) := by decide +kernel
theorem dX8_init_23 : decode cX8_init 23 = .ok (.sipush 450, 3) := by decide +kernel
theorem dX8_init_26 : decode cX8_init 26 = .ok (.newarray .int, 2) := by decide +kernel
theorem dX8_init_28 : decode cX8_init 28 = .ok (.putfield 18, 3) := by decide +kernel
theorem dX8_init_31 : decode cX8_init 31 = .ok (.aload_n 0, 1) := by decide +kernel
theorem dX8_init_32 : decode cX8_init 32 = .ok (.sipush 450, 3) := by decide +kernel
theorem dX8_init_35 : decode cX8_init 35 = .ok (.newarray .int, 2) := by decide +kernel
theorem dX8_init_37 : decode cX8_init 37 = .ok (.putfield 21, 3) := by decide +kernel
theorem dX8_init_40 : decode cX8_init 40 = .ok (.aload_n 0, 1) := by decide +kernel
theorem dX8_init_41 : decode cX8_init 41 = .ok (.sipush 450, 3) := by decide +kernel
theorem dX8_init_44 : decode cX8_init 44 = .ok (.newarray .int, 2) := by decide +kernel
theorem dX8_init_46 : decode cX8_init 46 = .ok (.putfield 24, 3) := by decide +kernel
theorem dX8_init_49 : decode cX8_init 49 = .ok (.aload_n 0, 1) := by decide +kernel
theorem dX8_init_50 : decode cX8_init 50 = .ok (.sipush 450, 3) := by decide +kernel
theorem dX8_init_53 : decode cX8_init 53 = .ok (.newarray .int, 2) := by decide +kernel
theorem dX8_init_55 : decode cX8_init 55 = .ok (.putfield 27, 3) := by decide +kernel
theorem dX8_init_58 : decode cX8_init 58 = .ok (.aload_n 0, 1) := by decide +kernel
theorem dX8_init_59 : decode cX8_init 59 = .ok (.sipush 450, 3) := by decide +kernel
theorem dX8_init_62 : decode cX8_init 62 = .ok (.newarray .int, 2) := by decide +kernel
theorem dX8_init_64 : decode cX8_init 64 = .ok (.putfield 30, 3) := by decide +kernel
theorem dX8_init_67 : decode cX8_init 67 = .ok (.aload_n 0, 1) := by decide +kernel
theorem dX8_init_68 : decode cX8_init 68 = .ok (.sipush 700, 3) := by decide +kernel
theorem dX8_init_71 : decode cX8_init 71 = .ok (.newarray .int, 2) := by decide +kernel
theorem dX8_init_73 : decode cX8_init 73 = .ok (.putfield 33, 3) := by decide +kernel
theorem dX8_init_76 : decode cX8_init 76 = .ok (.aload_n 0, 1) := by decide +kernel
theorem dX8_init_77 : decode cX8_init 77 = .ok (.sipush 2000, 3) := by decide +kernel
theorem dX8_init_80 : decode cX8_init 80 = .ok (.newarray .int, 2) := by decide +kernel
theorem dX8_init_82 : decode cX8_init 82 = .ok (.putfield 36, 3) := by decide +kernel
theorem dX8_init_85 : decode cX8_init 85 = .ok (.return_, 1) := by decide +kernel
theorem dX8_clear_0 : decode cX8_clear 0 = .ok (.aload_n 0, 1) := by decide +kernel
theorem dX8_clear_1 : decode cX8_clear 1 = .ok (.iconst 0, 1) := by decide +kernel
theorem dX8_clear_2 : decode cX8_clear 2 = .ok (.putfield 39, 3) := by decide +kernel
theorem dX8_clear_5 : decode cX8_clear 5 = .ok (.aload_n 0, 1) := by decide +kernel
theorem dX8_clear_6 : decode cX8_clear 6 = .ok (.iconst 0, 1) := by decide +kernel
theorem dX8_clear_7 : decode cX8_clear 7 = .ok (.putfield 43, 3) := by decide +kernel
theorem dX8_clear_10 : decode cX8_clear 10 = .ok (.aload_n 0, 1) := by decide +kernel
theorem dX8_clear_11 : decode cX8_clear 11 = .ok (.iconst 0, 1) := by decide +kernel
theorem dX8_clear_12 : decode cX8_clear 12 = .ok (.putfield 47, 3) := by decide +kernel
theorem dX8_clear_15 : decode cX8_clear 15 = .ok (.aload_n 0, 1) := by decide +kernel
theorem dX8_clear_16 : decode cX8_clear 16 = .ok (.iconst (-1), 1) := by decide +kernel
theorem dX8_clear_17 : decode cX8_clear 17 = .ok (.putfield 50, 3) := by decide +kernel
theorem dX8_clear_20 : decode cX8_clear 20 = .ok (.aload_n 0, 1) := by decide +kernel
theorem dX8_clear_21 : decode cX8_clear 21 = .ok (.iconst 0, 1) := by decide +kernel
theorem dX8_clear_22 : decode cX8_clear 22 = .ok (.putfield 53, 3) := by decide +kernel
theorem dX8_clear_25 : decode cX8_clear 25 = .ok (.aload_n 0, 1) := by decide +kernel
theorem dX8_clear_26 : decode cX8_clear 26 = .ok (.getfield 36, 3) := by decide +kernel
theorem dX8_clear_29 : decode cX8_clear 29 = .ok (.iconst 0, 1) := by decide +kernel
theorem dX8_clear_30 : decode cX8_clear 30 = .ok (.invokestatic 56, 3) := by decide +kernel
theorem dX8_clear_33 : decode cX8_clear 33 = .ok (.return_, 1) := by decide +kernel
theorem dX8_has_0 : decode cX8_has 0 = .ok (.iload_n 1, 1) := by decide +kernel
theorem dX8_has_1 : decode cX8_has 1 = .ok (.ifCond .lt 15, 3) := by decide +kernel
theorem dX8_has_4 : decode cX8_has 4 = .ok (.iload_n 1, 1) := by decide +kernel
theorem dX8_has_5 : decode cX8_has 5 = .ok (.aload_n 0, 1) := by decide +kernel
theorem dX8_has_6 : decode cX8_has 6 = .ok (.getfield 43, 3) := by decide +kernel
theorem dX8_has_9 : decode cX8_has 9 = .ok (.if_icmp .ge 7, 3) := by decide +kernel
theorem dX8_has_12 : decode cX8_has 12 = .ok (.iconst 1, 1) := by decide +kernel
theorem dX8_has_13 : decode cX8_has 13 = .ok (.goto 4, 3) := by decide +kernel
theorem dX8_has_16 : decode cX8_has 16 = .ok (.iconst 0, 1) := by decide +kernel
theorem dX8_has_17 : decode cX8_has 17 = .ok (.ireturn, 1) := by decide +kernel
theorem dX8_addFunction_0 : decode cX8_addFunction 0 = .ok (.aload_n 0, 1) := by decide +kernel
theorem dX8_addFunction_1 : decode cX8_addFunction 1 = .ok (.getfield 43, 3) := by decide +kernel
theorem dX8_addFunction_4 : decode cX8_addFunction 4 = .ok (.sipush 450, 3) := by decide +kernel
theorem dX8_addFunction_7 : decode cX8_addFunction 7 = .ok (.if_icmp .ge 89, 3) := by decide +kernel
theorem dX8_addFunction_10 : decode cX8_addFunction 10 = .ok (.aload_n 0, 1) := by decide +kernel
theorem dX8_addFunction_11 : decode cX8_addFunction 11 = .ok (.getfield 11, 3) := by decide +kernel
theorem dX8_addFunction_14 : decode cX8_addFunction 14 = .ok (.aload_n 0, 1) := by decide +kernel
theorem dX8_addFunction_15 : decode cX8_addFunction 15 = .ok (.getfield 43, 3) := by decide +kernel
theorem dX8_addFunction_18 : decode cX8_addFunction 18 = .ok (.iload_n 1, 1) := by decide +kernel
theorem dX8_addFunction_19 : decode cX8_addFunction 19 = .ok (.iastore, 1) := by decide +kernel
theorem dX8_addFunction_20 : decode cX8_addFunction 20 = .ok (.aload_n 0, 1) := by decide +kernel
theorem dX8_addFunction_21 : decode cX8_addFunction 21 = .ok (.getfield 27, 3) := by decide +kernel
theorem dX8_addFunction_24 : decode cX8_addFunction 24 = .ok (.aload_n 0, 1) := by decide +kernel
theorem dX8_addFunction_25 : decode cX8_addFunction 25 = .ok (.getfield 43, 3) := by decide +kernel
theorem dX8_addFunction_28 : decode cX8_addFunction 28 = .ok (.iload_n 2, 1) := by decide +kernel
theorem dX8_addFunction_29 : decode cX8_addFunction 29 = .ok (.invokestatic 62, 3) := by decide +kernel
theorem dX8_addFunction_32 : decode cX8_addFunction 32 = .ok (.iastore, 1) := by decide +kernel
theorem dX8_addFunction_33 : decode cX8_addFunction 33 = .ok (.aload_n 0, 1) := by decide +kernel
theorem dX8_addFunction_34 : decode cX8_addFunction 34 = .ok (.getfield 30, 3) := by decide +kernel
theorem dX8_addFunction_37 : decode cX8_addFunction 37 = .ok (.aload_n 0, 1) := by decide +kernel
theorem dX8_addFunction_38 : decode cX8_addFunction 38 = .ok (.getfield 43, 3) := by decide +kernel
theorem dX8_addFunction_41 : decode cX8_addFunction 41 = .ok (.aload_n 0, 1) := by decide +kernel
theorem dX8_addFunction_42 : decode cX8_addFunction 42 = .ok (.getfield 53, 3) := by decide +kernel
theorem dX8_addFunction_45 : decode cX8_addFunction 45 = .ok (.iastore, 1) := by decide +kernel
theorem dX8_addFunction_46 : decode cX8_addFunction 46 = .ok (.aload_n 0, 1) := by decide +kernel
theorem dX8_addFunction_47 : decode cX8_addFunction 47 = .ok (.getfield 15, 3) := by decide +kernel
theorem dX8_addFunction_50 : decode cX8_addFunction 50 = .ok (.aload_n 0, 1) := by decide +kernel
theorem dX8_addFunction_51 : decode cX8_addFunction 51 = .ok (.getfield 43, 3) := by decide +kernel
theorem dX8_addFunction_54 : decode cX8_addFunction 54 = .ok (.iconst 0, 1) := by decide +kernel
theorem dX8_addFunction_55 : decode cX8_addFunction 55 = .ok (.iastore, 1) := by decide +kernel
theorem dX8_addFunction_56 : decode cX8_addFunction 56 = .ok (.aload_n 0, 1) := by decide +kernel
theorem dX8_addFunction_57 : decode cX8_addFunction 57 = .ok (.getfield 24, 3) := by decide +kernel
theorem dX8_addFunction_60 : decode cX8_addFunction 60 = .ok (.aload_n 0, 1) := by decide +kernel
theorem dX8_addFunction_61 : decode cX8_addFunction 61 = .ok (.getfield 43, 3) := by decide +kernel
theorem dX8_addFunction_64 : decode cX8_addFunction 64 = .ok (.iconst 0, 1) := by decide +kernel
theorem dX8_addFunction_65 : decode cX8_addFunction 65 = .ok (.iastore, 1) := by decide +kernel
theorem dX8_addFunction_66 : decode cX8_addFunction 66 = .ok (.aload_n 0, 1) := by decide +kernel
theorem dX8_addFunction_67 : decode cX8_addFunction 67 = .ok (.getfield 18, 3) := by decide +kernel
theorem dX8_addFunction_70 : decode cX8_addFunction 70 = .ok (.aload_n 0, 1) := by decide +kernel
theorem dX8_addFunction_71 : decode cX8_addFunction 71 = .ok (.getfield 43, 3) := by decide +kernel
theorem dX8_addFunction_74 : decode cX8_addFunction 74 = .ok (.iconst 4, 1) := by decide +kernel
theorem dX8_addFunction_75 : decode cX8_addFunction 75 = .ok (.iastore, 1) := by decide +kernel
theorem dX8_addFunction_76 : decode cX8_addFunction 76 = .ok (.aload_n 0, 1) := by decide +kernel
theorem dX8_addFunction_77 : decode cX8_addFunction 77 = .ok (.getfield 21, 3) := by decide +kernel
theorem dX8_addFunction_80 : decode cX8_addFunction 80 = .ok (.aload_n 0, 1) := by decide +kernel
theorem dX8_addFunction_81 : decode cX8_addFunction 81 = .ok (.getfield 43, 3) := by decide +kernel
theorem dX8_addFunction_84 : decode cX8_addFunction 84 = .ok (.iconst 0, 1) := by decide +kernel
theorem dX8_addFunction_85 : decode cX8_addFunction 85 = .ok (.iastore, 1) := by decide +kernel
theorem dX8_addFunction_86 : decode cX8_addFunction 86 = .ok (.aload_n 0, 1) := by decide +kernel
theorem dX8_addFunction_87 : decode cX8_addFunction 87 = .ok (.dup, 1) := by decide +kernel
theorem dX8_addFunction_88 : decode cX8_addFunction 88 = .ok (.getfield 43, 3) := by decide +kernel
theorem dX8_addFunction_91 : decode cX8_addFunction 91 = .ok (.iconst 1, 1) := by decide +kernel
theorem dX8_addFunction_92 : decode cX8_addFunction 92 = .ok (.iadd, 1) := by decide +kernel
theorem dX8_addFunction_93 : decode cX8_addFunction 93 = .ok (.putfield 43, 3) := by decide +kernel
theorem dX8_addFunction_96 : decode cX8_addFunction 96 = .ok (.return_, 1) := by decide +kernel
theorem dX8_addFormal_0 : decode cX8_addFormal 0 = .ok (.aload_n 0, 1) := by decide +kernel
theorem dX8_addFormal_1 : decode cX8_addFormal 1 = .ok (.getfield 53, 3) := by decide +kernel
theorem dX8_addFormal_4 : decode cX8_addFormal 4 = .ok (.sipush 700, 3) := by decide +kernel
theorem dX8_addFormal_7 : decode cX8_addFormal 7 = .ok (.if_icmp .ge 75, 3) := by decide +kernel
theorem dX8_addFormal_10 : decode cX8_addFormal 10 = .ok (.aload_n 0, 1) := by decide +kernel
theorem dX8_addFormal_11 : decode cX8_addFormal 11 = .ok (.aload_n 0, 1) := by decide +kernel
theorem dX8_addFormal_12 : decode cX8_addFormal 12 = .ok (.getfield 43, 3) := by decide +kernel
theorem dX8_addFormal_15 : decode cX8_addFormal 15 = .ok (.iconst 1, 1) := by decide +kernel
theorem dX8_addFormal_16 : decode cX8_addFormal 16 = .ok (.isub, 1) := by decide +kernel
theorem dX8_addFormal_17 : decode cX8_addFormal 17 = .ok (.invokevirtual 66, 3) := by decide +kernel
theorem dX8_addFormal_20 : decode cX8_addFormal 20 = .ok (.ifCond .eq 62, 3) := by decide +kernel
theorem dX8_addFormal_23 : decode cX8_addFormal 23 = .ok (.aload_n 0, 1) := by decide +kernel
theorem dX8_addFormal_24 : decode cX8_addFormal 24 = .ok (.getfield 33, 3) := by decide +kernel
theorem dX8_addFormal_27 : decode cX8_addFormal 27 = .ok (.aload_n 0, 1) := by decide +kernel
theorem dX8_addFormal_28 : decode cX8_addFormal 28 = .ok (.getfield 53, 3) := by decide +kernel
theorem dX8_addFormal_31 : decode cX8_addFormal 31 = .ok (.iload_n 1, 1) := by decide +kernel
theorem dX8_addFormal_32 : decode cX8_addFormal 32 = .ok (.iastore, 1) := by decide +kernel
theorem dX8_addFormal_33 : decode cX8_addFormal 33 = .ok (.aload_n 0, 1) := by decide +kernel
theorem dX8_addFormal_34 : decode cX8_addFormal 34 = .ok (.dup, 1) := by decide +kernel
theorem dX8_addFormal_35 : decode cX8_addFormal 35 = .ok (.getfield 53, 3) := by decide +kernel
theorem dX8_addFormal_38 : decode cX8_addFormal 38 = .ok (.iconst 1, 1) := by decide +kernel
theorem dX8_addFormal_39 : decode cX8_addFormal 39 = .ok (.iadd, 1) := by decide +kernel
theorem dX8_addFormal_40 : decode cX8_addFormal 40 = .ok (.putfield 53, 3) := by decide +kernel
theorem dX8_addFormal_43 : decode cX8_addFormal 43 = .ok (.aload_n 0, 1) := by decide +kernel
theorem dX8_addFormal_44 : decode cX8_addFormal 44 = .ok (.getfield 15, 3) := by decide +kernel
theorem dX8_addFormal_47 : decode cX8_addFormal 47 = .ok (.aload_n 0, 1) := by decide +kernel
theorem dX8_addFormal_48 : decode cX8_addFormal 48 = .ok (.getfield 43, 3) := by decide +kernel
theorem dX8_addFormal_51 : decode cX8_addFormal 51 = .ok (.iconst 1, 1) := by decide +kernel
theorem dX8_addFormal_52 : decode cX8_addFormal 52 = .ok (.isub, 1) := by decide +kernel
theorem dX8_addFormal_53 : decode cX8_addFormal 53 = .ok (.dup2, 1) := by decide +kernel
theorem dX8_addFormal_54 : decode cX8_addFormal 54 = .ok (.iaload, 1) := by decide +kernel
theorem dX8_addFormal_55 : decode cX8_addFormal 55 = .ok (.iconst 1, 1) := by decide +kernel
theorem dX8_addFormal_56 : decode cX8_addFormal 56 = .ok (.iadd, 1) := by decide +kernel
theorem dX8_addFormal_57 : decode cX8_addFormal 57 = .ok (.iastore, 1) := by decide +kernel
theorem dX8_addFormal_58 : decode cX8_addFormal 58 = .ok (.aload_n 0, 1) := by decide +kernel
theorem dX8_addFormal_59 : decode cX8_addFormal 59 = .ok (.getfield 24, 3) := by decide +kernel
theorem dX8_addFormal_62 : decode cX8_addFormal 62 = .ok (.aload_n 0, 1) := by decide +kernel
theorem dX8_addFormal_63 : decode cX8_addFormal 63 = .ok (.getfield 43, 3) := by decide +kernel
theorem dX8_addFormal_66 : decode cX8_addFormal 66 = .ok (.iconst 1, 1) := by decide +kernel
theorem dX8_addFormal_67 : decode cX8_addFormal 67 = .ok (.isub, 1) := by decide +kernel
theorem dX8_addFormal_68 : decode cX8_addFormal 68 = .ok (.dup2, 1) := by decide +kernel
theorem dX8_addFormal_69 : decode cX8_addFormal 69 = .ok (.iaload, 1) := by decide +kernel
theorem dX8_addFormal_70 : decode cX8_addFormal 70 = .ok (.iload_n 1, 1) := by decide +kernel
theorem dX8_addFormal_71 : decode cX8_addFormal 71 = .ok (.iconst 1, 1) := by decide +kernel
theorem dX8_addFormal_72 : decode cX8_addFormal 72 = .ok (.if_icmp .ne 7, 3) := by decide +kernel
theorem dX8_addFormal_75 : decode cX8_addFormal 75 = .ok (.iconst 1, 1) := by decide +kernel
theorem dX8_addFormal_76 : decode cX8_addFormal 76 = .ok (.goto 4, 3) := by decide +kernel
theorem dX8_addFormal_79 : decode cX8_addFormal 79 = .ok (.iconst 2, 1) := by decide +kernel
theorem dX8_addFormal_80 : decode cX8_addFormal 80 = .ok (.iadd, 1) := by decide +kernel
theorem dX8_addFormal_81 : decode cX8_addFormal 81 = .ok (.iastore, 1) := by decide +kernel
theorem dX8_addFormal_82 : decode cX8_addFormal 82 = .ok (.return_, 1) := by decide +kernel
theorem dX8_gives_0 : decode cX8_gives 0 = .ok (.iload_n 1, 1) := by decide +kernel
theorem dX8_gives_1 : decode cX8_gives 1 = .ok (.ifCond .lt 25, 3) := by decide +kernel
theorem dX8_gives_4 : decode cX8_gives 4 = .ok (.iload_n 1, 1) := by decide +kernel
theorem dX8_gives_5 : decode cX8_gives 5 = .ok (.aload_n 0, 1) := by decide +kernel
theorem dX8_gives_6 : decode cX8_gives 6 = .ok (.getfield 43, 3) := by decide +kernel
theorem dX8_gives_9 : decode cX8_gives 9 = .ok (.if_icmp .ge 17, 3) := by decide +kernel
theorem dX8_gives_12 : decode cX8_gives 12 = .ok (.aload_n 0, 1) := by decide +kernel
theorem dX8_gives_13 : decode cX8_gives 13 = .ok (.getfield 27, 3) := by decide +kernel
theorem dX8_gives_16 : decode cX8_gives 16 = .ok (.iload_n 1, 1) := by decide +kernel
theorem dX8_gives_17 : decode cX8_gives 17 = .ok (.iaload, 1) := by decide +kernel
theorem dX8_gives_18 : decode cX8_gives 18 = .ok (.iconst 1, 1) := by decide +kernel
theorem dX8_gives_19 : decode cX8_gives 19 = .ok (.if_icmp .ne 7, 3) := by decide +kernel
theorem dX8_gives_22 : decode cX8_gives 22 = .ok (.iconst 1, 1) := by decide +kernel
theorem dX8_gives_23 : decode cX8_gives 23 = .ok (.goto 4, 3) := by decide +kernel
theorem dX8_gives_26 : decode cX8_gives 26 = .ok (.iconst 0, 1) := by decide +kernel
theorem dX8_gives_27 : decode cX8_gives 27 = .ok (.ireturn, 1) := by decide +kernel
theorem dX8_formalKind_0 : decode cX8_formalKind 0 = .ok (.aload_n 0, 1) := by decide +kernel
theorem dX8_formalKind_1 : decode cX8_formalKind 1 = .ok (.iload_n 1, 1) := by decide +kernel
theorem dX8_formalKind_2 : decode cX8_formalKind 2 = .ok (.invokevirtual 66, 3) := by decide +kernel
theorem dX8_formalKind_5 : decode cX8_formalKind 5 = .ok (.ifCond .eq 17, 3) := by decide +kernel
theorem dX8_formalKind_8 : decode cX8_formalKind 8 = .ok (.iload_n 2, 1) := by decide +kernel
theorem dX8_formalKind_9 : decode cX8_formalKind 9 = .ok (.ifCond .lt 13, 3) := by decide +kernel
theorem dX8_formalKind_12 : decode cX8_formalKind 12 = .ok (.iload_n 2, 1) := by decide +kernel
theorem dX8_formalKind_13 : decode cX8_formalKind 13 = .ok (.aload_n 0, 1) := by decide +kernel
theorem dX8_formalKind_14 : decode cX8_formalKind 14 = .ok (.getfield 15, 3) := by decide +kernel
theorem dX8_formalKind_17 : decode cX8_formalKind 17 = .ok (.iload_n 1, 1) := by decide +kernel
theorem dX8_formalKind_18 : decode cX8_formalKind 18 = .ok (.iaload, 1) := by decide +kernel
theorem dX8_formalKind_19 : decode cX8_formalKind 19 = .ok (.if_icmp .lt 5, 3) := by decide +kernel
theorem dX8_formalKind_22 : decode cX8_formalKind 22 = .ok (.iconst (-1), 1) := by decide +kernel
theorem dX8_formalKind_23 : decode cX8_formalKind 23 = .ok (.ireturn, 1) := by decide +kernel
theorem dX8_formalKind_24 : decode cX8_formalKind 24 = .ok (.aload_n 0, 1) := by decide +kernel
theorem dX8_formalKind_25 : decode cX8_formalKind 25 = .ok (.getfield 30, 3) := by decide +kernel
theorem dX8_formalKind_28 : decode cX8_formalKind 28 = .ok (.iload_n 1, 1) := by decide +kernel
theorem dX8_formalKind_29 : decode cX8_formalKind 29 = .ok (.iaload, 1) := by decide +kernel
theorem dX8_formalKind_30 : decode cX8_formalKind 30 = .ok (.iload_n 2, 1) := by decide +kernel
theorem dX8_formalKind_31 : decode cX8_formalKind 31 = .ok (.iadd, 1) := by decide +kernel
theorem dX8_formalKind_32 : decode cX8_formalKind 32 = .ok (.istore_n 3, 1) := by decide +kernel
theorem dX8_formalKind_33 : decode cX8_formalKind 33 = .ok (.iload_n 3, 1) := by decide +kernel
theorem dX8_formalKind_34 : decode cX8_formalKind 34 = .ok (.sipush 700, 3) := by decide +kernel
theorem dX8_formalKind_37 : decode cX8_formalKind 37 = .ok (.if_icmp .ge 12, 3) := by decide +kernel
theorem dX8_formalKind_40 : decode cX8_formalKind 40 = .ok (.aload_n 0, 1) := by decide +kernel
theorem dX8_formalKind_41 : decode cX8_formalKind 41 = .ok (.getfield 33, 3) := by decide +kernel
theorem dX8_formalKind_44 : decode cX8_formalKind 44 = .ok (.iload_n 3, 1) := by decide +kernel
theorem dX8_formalKind_45 : decode cX8_formalKind 45 = .ok (.iaload, 1) := by decide +kernel
theorem dX8_formalKind_46 : decode cX8_formalKind 46 = .ok (.goto 4, 3) := by decide +kernel
theorem dX8_formalKind_49 : decode cX8_formalKind 49 = .ok (.iconst (-1), 1) := by decide +kernel
theorem dX8_formalKind_50 : decode cX8_formalKind 50 = .ok (.ireturn, 1) := by decide +kernel
theorem dX8_firstWord_0 : decode cX8_firstWord 0 = .ok (.iload_n 1, 1) := by decide +kernel
theorem dX8_firstWord_1 : decode cX8_firstWord 1 = .ok (.ifCond .lt 10, 3) := by decide +kernel
theorem dX8_firstWord_4 : decode cX8_firstWord 4 = .ok (.iload_n 1, 1) := by decide +kernel
theorem dX8_firstWord_5 : decode cX8_firstWord 5 = .ok (.sipush 2000, 3) := by decide +kernel
theorem dX8_firstWord_8 : decode cX8_firstWord 8 = .ok (.if_icmp .lt 7, 3) := by decide +kernel
theorem dX8_firstWord_11 : decode cX8_firstWord 11 = .ok (.iconst 0, 1) := by decide +kernel
theorem dX8_firstWord_12 : decode cX8_firstWord 12 = .ok (.goto 9, 3) := by decide +kernel
theorem dX8_firstWord_15 : decode cX8_firstWord 15 = .ok (.aload_n 0, 1) := by decide +kernel
theorem dX8_firstWord_16 : decode cX8_firstWord 16 = .ok (.getfield 36, 3) := by decide +kernel
theorem dX8_firstWord_19 : decode cX8_firstWord 19 = .ok (.iload_n 1, 1) := by decide +kernel
theorem dX8_firstWord_20 : decode cX8_firstWord 20 = .ok (.iaload, 1) := by decide +kernel
theorem dX8_firstWord_21 : decode cX8_firstWord 21 = .ok (.ireturn, 1) := by decide +kernel
theorem dX8_tellInt_0 : decode cX8_tellInt 0 = .ok (.iload_n 1, 1) := by decide +kernel
theorem dX8_tellInt_1 : decode cX8_tellInt 1 = .ok (.ifCond .lt 17, 3) := by decide +kernel
theorem dX8_tellInt_4 : decode cX8_tellInt 4 = .ok (.iload_n 1, 1) := by decide +kernel
theorem dX8_tellInt_5 : decode cX8_tellInt 5 = .ok (.sipush 2000, 3) := by decide +kernel
theorem dX8_tellInt_8 : decode cX8_tellInt 8 = .ok (.if_icmp .ge 10, 3) := by decide +kernel
theorem dX8_tellInt_11 : decode cX8_tellInt 11 = .ok (.aload_n 0, 1) := by decide +kernel
theorem dX8_tellInt_12 : decode cX8_tellInt 12 = .ok (.getfield 36, 3) := by decide +kernel
theorem dX8_tellInt_15 : decode cX8_tellInt 15 = .ok (.iload_n 1, 1) := by decide +kernel
theorem dX8_tellInt_16 : decode cX8_tellInt 16 = .ok (.iload_n 2, 1) := by decide +kernel
theorem dX8_tellInt_17 : decode cX8_tellInt 17 = .ok (.iastore, 1) := by decide +kernel
theorem dX8_tellInt_18 : decode cX8_tellInt 18 = .ok (.return_, 1) := by decide +kernel
theorem dX8_tellByte_0 : decode cX8_tellByte 0 = .ok (.iload_n 1, 1) := by decide +kernel
theorem dX8_tellByte_1 : decode cX8_tellByte 1 = .ok (.iload_n 2, 1) := by decide +kernel
theorem dX8_tellByte_2 : decode cX8_tellByte 2 = .ok (.iconst 2, 1) := by decide +kernel
theorem dX8_tellByte_3 : decode cX8_tellByte 3 = .ok (.ishr, 1) := by decide +kernel
theorem dX8_tellByte_4 : decode cX8_tellByte 4 = .ok (.iadd, 1) := by decide +kernel
theorem dX8_tellByte_5 : decode cX8_tellByte 5 = .ok (.istore 4, 2) := by decide +kernel
theorem dX8_tellByte_7 : decode cX8_tellByte 7 = .ok (.iload_n 2, 1) := by decide +kernel
theorem dX8_tellByte_8 : decode cX8_tellByte 8 = .ok (.iconst 3, 1) := by decide +kernel
theorem dX8_tellByte_9 : decode cX8_tellByte 9 = .ok (.iand, 1) := by decide +kernel
theorem dX8_tellByte_10 : decode cX8_tellByte 10 = .ok (.bipush 8, 2) := by decide +kernel
theorem dX8_tellByte_12 : decode cX8_tellByte 12 = .ok (.imul, 1) := by decide +kernel
theorem dX8_tellByte_13 : decode cX8_tellByte 13 = .ok (.istore 5, 2) := by decide +kernel
theorem dX8_tellByte_15 : decode cX8_tellByte 15 = .ok (.aload_n 0, 1) := by decide +kernel
theorem dX8_tellByte_16 : decode cX8_tellByte 16 = .ok (.iload 4, 2) := by decide +kernel
theorem dX8_tellByte_18 : decode cX8_tellByte 18 = .ok (.aload_n 0, 1) := by decide +kernel
theorem dX8_tellByte_19 : decode cX8_tellByte 19 = .ok (.iload 4, 2) := by decide +kernel
theorem dX8_tellByte_21 : decode cX8_tellByte 21 = .ok (.invokevirtual 70, 3) := by decide +kernel
theorem dX8_tellByte_24 : decode cX8_tellByte 24 = .ok (.sipush 255, 3) := by decide +kernel
theorem dX8_tellByte_27 : decode cX8_tellByte 27 = .ok (.iload 5, 2) := by decide +kernel
theorem dX8_tellByte_29 : decode cX8_tellByte 29 = .ok (.ishl, 1) := by decide +kernel
theorem dX8_tellByte_30 : decode cX8_tellByte 30 = .ok (.iconst (-1), 1) := by decide +kernel
theorem dX8_tellByte_31 : decode cX8_tellByte 31 = .ok (.ixor, 1) := by decide +kernel
theorem dX8_tellByte_32 : decode cX8_tellByte 32 = .ok (.iand, 1) := by decide +kernel
theorem dX8_tellByte_33 : decode cX8_tellByte 33 = .ok (.iload_n 3, 1) := by decide +kernel
theorem dX8_tellByte_34 : decode cX8_tellByte 34 = .ok (.sipush 255, 3) := by decide +kernel
theorem dX8_tellByte_37 : decode cX8_tellByte 37 = .ok (.iand, 1) := by decide +kernel
theorem dX8_tellByte_38 : decode cX8_tellByte 38 = .ok (.iload 5, 2) := by decide +kernel
theorem dX8_tellByte_40 : decode cX8_tellByte 40 = .ok (.ishl, 1) := by decide +kernel
theorem dX8_tellByte_41 : decode cX8_tellByte 41 = .ok (.ior, 1) := by decide +kernel
theorem dX8_tellByte_42 : decode cX8_tellByte 42 = .ok (.invokevirtual 74, 3) := by decide +kernel
theorem dX8_tellByte_45 : decode cX8_tellByte 45 = .ok (.return_, 1) := by decide +kernel
theorem dX9_init_0 : decode cX9_init 0 = .ok (.aload_n 0, 1) := by decide +kernel
theorem dX9_init_1 : decode cX9_init 1 = .ok (.invokespecial 3, 3) := by decide +kernel
theorem dX9_init_4 : decode cX9_init 4 = .ok (.aload_n 0, 1) := by decide +kernel
theorem dX9_init_5 : decode cX9_init 5 = .ok (.sipush 4000, 3) := by decide +kernel
theorem dX9_init_8 : decode cX9_init 8 = .ok (.newarray .byte, 2) := by decide +kernel
theorem dX9_init_10 : decode cX9_init 10 = .ok (.putfield 9, 3) := by decide +kernel
theorem dX9_init_13 : decode cX9_init 13 = .ok (.return_, 1) := by decide +kernel
theorem dX9_take_0 : decode cX9_take 0 = .ok (.bipush 24, 2) := by decide +kernel
theorem dX9_take_2 : decode cX9_take 2 = .ok (.istore_n 2, 1) := by decide +kernel
theorem dX9_take_3 : decode cX9_take 3 = .ok (.iload_n 2, 1) := by decide +kernel
theorem dX9_take_4 : decode cX9_take 4 = .ok (.ifCond .lt 42, 3) := by decide +kernel
theorem dX9_take_7 : decode cX9_take 7 = .ok (.aload_n 0, 1) := by decide +kernel
theorem dX9_take_8 : decode cX9_take 8 = .ok (.getfield 15, 3) := by decide +kernel
theorem dX9_take_11 : decode cX9_take 11 = .ok (.sipush 4000, 3) := by decide +kernel
theorem dX9_take_14 : decode cX9_take 14 = .ok (.if_icmp .ge 32, 3) := by decide +kernel
theorem dX9_take_17 : decode cX9_take 17 = .ok (.aload_n 0, 1) := by decide +kernel
theorem dX9_take_18 : decode cX9_take 18 = .ok (.getfield 9, 3) := by decide +kernel
theorem dX9_take_21 : decode cX9_take 21 = .ok (.aload_n 0, 1) := by decide +kernel
theorem dX9_take_22 : decode cX9_take 22 = .ok (.getfield 15, 3) := by decide +kernel
theorem dX9_take_25 : decode cX9_take 25 = .ok (.iload_n 1, 1) := by decide +kernel
theorem dX9_take_26 : decode cX9_take 26 = .ok (.iload_n 2, 1) := by decide +kernel
theorem dX9_take_27 : decode cX9_take 27 = .ok (.iushr, 1) := by decide +kernel
theorem dX9_take_28 : decode cX9_take 28 = .ok (.i2b, 1) := by decide +kernel
theorem dX9_take_29 : decode cX9_take 29 = .ok (.bastore, 1) := by decide +kernel
theorem dX9_take_30 : decode cX9_take 30 = .ok (.aload_n 0, 1) := by decide +kernel
theorem dX9_take_31 : decode cX9_take 31 = .ok (.dup, 1) := by decide +kernel
theorem dX9_take_32 : decode cX9_take 32 = .ok (.getfield 15, 3) := by decide +kernel
theorem dX9_take_35 : decode cX9_take 35 = .ok (.iconst 1, 1) := by decide +kernel
theorem dX9_take_36 : decode cX9_take 36 = .ok (.iadd, 1) := by decide +kernel
theorem dX9_take_37 : decode cX9_take 37 = .ok (.putfield 15, 3) := by decide +kernel
theorem dX9_take_40 : decode cX9_take 40 = .ok (.iinc 2 (-8), 3) := by decide +kernel
theorem dX9_take_43 : decode cX9_take 43 = .ok (.goto (-40), 3) := by decide +kernel
theorem dX9_take_46 : decode cX9_take 46 = .ok (.return_, 1) := by decide +kernel
theorem dX9_at_0 : decode cX9_at 0 = .ok (.iload_n 1, 1) := by decide +kernel
theorem dX9_at_1 : decode cX9_at 1 = .ok (.ifCond .lt 11, 3) := by decide +kernel
theorem dX9_at_4 : decode cX9_at 4 = .ok (.iload_n 1, 1) := by decide +kernel
theorem dX9_at_5 : decode cX9_at 5 = .ok (.aload_n 0, 1) := by decide +kernel
theorem dX9_at_6 : decode cX9_at 6 = .ok (.getfield 15, 3) := by decide +kernel
theorem dX9_at_9 : decode cX9_at 9 = .ok (.if_icmp .lt 7, 3) := by decide +kernel
theorem dX9_at_12 : decode cX9_at 12 = .ok (.iconst (-1), 1) := by decide +kernel
theorem dX9_at_13 : decode cX9_at 13 = .ok (.goto 13, 3) := by decide +kernel
theorem dX9_at_16 : decode cX9_at 16 = .ok (.aload_n 0, 1) := by decide +kernel
theorem dX9_at_17 : decode cX9_at 17 = .ok (.getfield 9, 3) := by decide +kernel
theorem dX9_at_20 : decode cX9_at 20 = .ok (.iload_n 1, 1) := by decide +kernel
theorem dX9_at_21 : decode cX9_at 21 = .ok (.baload, 1) := by decide +kernel
theorem dX9_at_22 : decode cX9_at 22 = .ok (.sipush 255, 3) := by decide +kernel
theorem dX9_at_25 : decode cX9_at 25 = .ok (.iand, 1) := by decide +kernel
theorem dX9_at_26 : decode cX9_at 26 = .ok (.ireturn, 1) := by decide +kernel
theorem dX10_init_0 : decode cX10_init 0 = .ok (.aload_n 0, 1) := by decide +kernel
theorem dX10_init_1 : decode cX10_init 1 = .ok (.invokespecial 3, 3) := by decide +kernel
theorem dX10_init_4 : decode cX10_init 4 = .ok (.aload_n 0, 1) := by decide +kernel
theorem dX10_init_5 : decode cX10_init 5 = .ok (.sipush 4001, 3) := by decide +kernel
theorem dX10_init_8 : decode cX10_init 8 = .ok (.newarray .int, 2) := by decide +kernel
theorem dX10_init_10 : decode cX10_init 10 = .ok (.putfield 9, 3) := by decide +kernel
theorem dX10_init_13 : decode cX10_init 13 = .ok (.aload_n 0, 1) := by decide +kernel
theorem dX10_init_14 : decode cX10_init 14 = .ok (.sipush 4001, 3) := by decide +kernel
theorem dX10_init_17 : decode cX10_init 17 = .ok (.newarray .int, 2) := by decide +kernel
theorem dX10_init_19 : decode cX10_init 19 = .ok (.putfield 15, 3) := by decide +kernel
theorem dX10_init_22 : decode cX10_init 22 = .ok (.aload_n 0, 1) := by decide +kernel
theorem dX10_init_23 : decode cX10_init 23 = .ok (.sipush 4001, 3) := by decide +kernel
theorem dX10_init_26 : decode cX10_init 26 = .ok (.newarray .int, 2) := by decide +kernel
theorem dX10_init_28 : decode cX10_init 28 = .ok (.putfield 18, 3) := by decide +kernel
theorem dX10_init_31 : decode cX10_init 31 = .ok (.aload_n 0, 1) := by decide +kernel
theorem dX10_init_32 : decode cX10_init 32 = .ok (.sipush 1024, 3) := by decide +kernel
theorem dX10_init_35 : decode cX10_init 35 = .ok (.newarray .int, 2) := by decide +kernel
theorem dX10_init_37 : decode cX10_init 37 = .ok (.putfield 21, 3) := by decide +kernel
theorem dX10_init_40 : decode cX10_init 40 = .ok (.aload_n 0, 1) := by decide +kernel
theorem dX10_init_41 : decode cX10_init 41 = .ok (.sipush 1408, 3) := by decide +kernel
theorem dX10_init_44 : decode cX10_init 44 = .ok (.newarray .int, 2) := by decide +kernel
theorem dX10_init_46 : decode cX10_init 46 = .ok (.putfield 24, 3) := by decide +kernel
theorem dX10_init_49 : decode cX10_init 49 = .ok (.aload_n 0, 1) := by decide +kernel
theorem dX10_init_50 : decode cX10_init 50 = .ok (.sipush 1408, 3) := by decide +kernel
theorem dX10_init_53 : decode cX10_init 53 = .ok (.newarray .int, 2) := by decide +kernel
theorem dX10_init_55 : decode cX10_init 55 = .ok (.putfield 27, 3) := by decide +kernel
theorem dX10_init_58 : decode cX10_init 58 = .ok (.aload_n 0, 1) := by decide +kernel
theorem dX10_init_59 : decode cX10_init 59 = .ok (.sipush 1408, 3) := by decide +kernel
theorem dX10_init_62 : decode cX10_init 62 = .ok (.newarray .int, 2) := by decide +kernel
theorem dX10_init_64 : decode cX10_init 64 = .ok (.putfield 30, 3) := by decide +kernel
theorem dX10_init_67 : decode cX10_init 67 = .ok (.aload_n 0, 1) := by decide +kernel
theorem dX10_init_68 : decode cX10_init 68 = .ok (.aload_n 1, 1) := by decide +kernel
theorem dX10_init_69 : decode cX10_init 69 = .ok (.putfield 33, 3) := by decide +kernel
theorem dX10_init_72 : decode cX10_init 72 = .ok (.return_, 1) := by decide +kernel
theorem dX10_kind_0 : decode cX10_kind 0 = .ok (.iload_n 1, 1) := by decide +kernel
theorem dX10_kind_1 : decode cX10_kind 1 = .ok (.ifCond .lt 11, 3) := by decide +kernel
theorem dX10_kind_4 : decode cX10_kind 4 = .ok (.iload_n 1, 1) := by decide +kernel
theorem dX10_kind_5 : decode cX10_kind 5 = .ok (.aload_n 0, 1) := by decide +kernel
theorem dX10_kind_6 : decode cX10_kind 6 = .ok (.getfield 37, 3) := by decide +kernel
theorem dX10_kind_9 : decode cX10_kind 9 = .ok (.if_icmp .lt 7, 3) := by decide +kernel
theorem dX10_kind_12 : decode cX10_kind 12 = .ok (.iconst 0, 1) := by decide +kernel
theorem dX10_kind_13 : decode cX10_kind 13 = .ok (.goto 9, 3) := by decide +kernel
theorem dX10_kind_16 : decode cX10_kind 16 = .ok (.aload_n 0, 1) := by decide +kernel
theorem dX10_kind_17 : decode cX10_kind 17 = .ok (.getfield 9, 3) := by decide +kernel
theorem dX10_kind_20 : decode cX10_kind 20 = .ok (.iload_n 1, 1) := by decide +kernel
theorem dX10_kind_21 : decode cX10_kind 21 = .ok (.iaload, 1) := by decide +kernel
theorem dX10_kind_22 : decode cX10_kind 22 = .ok (.ireturn, 1) := by decide +kernel
theorem dX10_scan_0 : decode cX10_scan 0 = .ok (.aload_n 0, 1) := by decide +kernel
theorem dX10_scan_1 : decode cX10_scan 1 = .ok (.iconst 0, 1) := by decide +kernel
theorem dX10_scan_2 : decode cX10_scan 2 = .ok (.putfield 37, 3) := by decide +kernel
theorem dX10_scan_5 : decode cX10_scan 5 = .ok (.aload_n 0, 1) := by decide +kernel
theorem dX10_scan_6 : decode cX10_scan 6 = .ok (.iconst 0, 1) := by decide +kernel
theorem dX10_scan_7 : decode cX10_scan 7 = .ok (.putfield 41, 3) := by decide +kernel
theorem dX10_scan_10 : decode cX10_scan 10 = .ok (.aload_n 0, 1) := by decide +kernel
theorem dX10_scan_11 : decode cX10_scan 11 = .ok (.getfield 21, 3) := by decide +kernel
theorem dX10_scan_14 : decode cX10_scan 14 = .ok (.iconst (-1), 1) := by decide +kernel
theorem dX10_scan_15 : decode cX10_scan 15 = .ok (.invokestatic 44, 3) := by decide +kernel
theorem dX10_scan_18 : decode cX10_scan 18 = .ok (.iconst 0, 1) := by decide +kernel
theorem dX10_scan_19 : decode cX10_scan 19 = .ok (.istore_n 1, 1) := by decide +kernel
theorem dX10_scan_20 : decode cX10_scan 20 = .ok (.iconst 0, 1) := by decide +kernel
theorem dX10_scan_21 : decode cX10_scan 21 = .ok (.istore_n 2, 1) := by decide +kernel
theorem dX10_scan_22 : decode cX10_scan 22 = .ok (.iload_n 2, 1) := by decide +kernel
theorem dX10_scan_23 : decode cX10_scan 23 = .ok (.sipush 4001, 3) := by decide +kernel
theorem dX10_scan_26 : decode cX10_scan 26 = .ok (.if_icmp .ge 49, 3) := by decide +kernel
theorem dX10_scan_29 : decode cX10_scan 29 = .ok (.iload_n 1, 1) := by decide +kernel
theorem dX10_scan_30 : decode cX10_scan 30 = .ok (.aload_n 0, 1) := by decide +kernel
theorem dX10_scan_31 : decode cX10_scan 31 = .ok (.getfield 33, 3) := by decide +kernel
theorem dX10_scan_34 : decode cX10_scan 34 = .ok (.getfield 50, 3) := by decide +kernel
theorem dX10_scan_37 : decode cX10_scan 37 = .ok (.if_icmp .ge 38, 3) := by decide +kernel
theorem dX10_scan_40 : decode cX10_scan 40 = .ok (.aload_n 0, 1) := by decide +kernel
theorem dX10_scan_41 : decode cX10_scan 41 = .ok (.iload_n 1, 1) := by decide +kernel
theorem dX10_scan_42 : decode cX10_scan 42 = .ok (.invokevirtual 53, 3) := by decide +kernel
theorem dX10_scan_45 : decode cX10_scan 45 = .ok (.istore_n 1, 1) := by decide +kernel
theorem dX10_scan_46 : decode cX10_scan 46 = .ok (.iload_n 1, 1) := by decide +kernel
theorem dX10_scan_47 : decode cX10_scan 47 = .ok (.aload_n 0, 1) := by decide +kernel
theorem dX10_scan_48 : decode cX10_scan 48 = .ok (.getfield 33, 3) := by decide +kernel
theorem dX10_scan_51 : decode cX10_scan 51 = .ok (.getfield 50, 3) := by decide +kernel
theorem dX10_scan_54 : decode cX10_scan 54 = .ok (.if_icmp .ge 9, 3) := by decide +kernel
theorem dX10_scan_57 : decode cX10_scan 57 = .ok (.aload_n 0, 1) := by decide +kernel
theorem dX10_scan_58 : decode cX10_scan 58 = .ok (.iload_n 1, 1) := by decide +kernel
theorem dX10_scan_59 : decode cX10_scan 59 = .ok (.invokevirtual 57, 3) := by decide +kernel
theorem dX10_scan_62 : decode cX10_scan 62 = .ok (.istore_n 1, 1) := by decide +kernel
theorem dX10_scan_63 : decode cX10_scan 63 = .ok (.iload_n 1, 1) := by decide +kernel
theorem dX10_scan_64 : decode cX10_scan 64 = .ok (.iconst (-1), 1) := by decide +kernel
theorem dX10_scan_65 : decode cX10_scan 65 = .ok (.if_icmp .ne 4, 3) := by decide +kernel
theorem dX10_scan_68 : decode cX10_scan 68 = .ok (.return_, 1) := by decide +kernel
theorem dX10_scan_69 : decode cX10_scan 69 = .ok (.iinc 2 1, 3) := by decide +kernel
theorem dX10_scan_72 : decode cX10_scan 72 = .ok (.goto (-50), 3) := by decide +kernel
theorem dX10_scan_75 : decode cX10_scan 75 = .ok (.aload_n 0, 1) := by decide +kernel
theorem dX10_scan_76 : decode cX10_scan 76 = .ok (.iconst 0, 1) := by decide +kernel
theorem dX10_scan_77 : decode cX10_scan 77 = .ok (.iconst 0, 1) := by decide +kernel
theorem dX10_scan_78 : decode cX10_scan 78 = .ok (.aload_n 0, 1) := by decide +kernel
theorem dX10_scan_79 : decode cX10_scan 79 = .ok (.getfield 33, 3) := by decide +kernel
theorem dX10_scan_82 : decode cX10_scan 82 = .ok (.getfield 50, 3) := by decide +kernel
theorem dX10_scan_85 : decode cX10_scan 85 = .ok (.invokevirtual 60, 3) := by decide +kernel
theorem dX10_scan_88 : decode cX10_scan 88 = .ok (.return_, 1) := by decide +kernel
theorem dX10_mainId_0 : decode cX10_mainId 0 = .ok (.iconst (-1), 1) := by decide +kernel
theorem dX10_mainId_1 : decode cX10_mainId 1 = .ok (.istore_n 1, 1) := by decide +kernel
theorem dX10_mainId_2 : decode cX10_mainId 2 = .ok (.iconst 0, 1) := by decide +kernel
theorem dX10_mainId_3 : decode cX10_mainId 3 = .ok (.istore_n 2, 1) := by decide +kernel
theorem dX10_mainId_4 : decode cX10_mainId 4 = .ok (.iload_n 2, 1) := by decide +kernel
theorem dX10_mainId_5 : decode cX10_mainId 5 = .ok (.aload_n 0, 1) := by decide +kernel
theorem dX10_mainId_6 : decode cX10_mainId 6 = .ok (.getfield 41, 3) := by decide +kernel
theorem dX10_mainId_9 : decode cX10_mainId 9 = .ok (.if_icmp .ge 91, 3) := by decide +kernel
theorem dX10_mainId_12 : decode cX10_mainId 12 = .ok (.iload_n 1, 1) := by decide +kernel
theorem dX10_mainId_13 : decode cX10_mainId 13 = .ok (.iconst (-1), 1) := by decide +kernel
theorem dX10_mainId_14 : decode cX10_mainId 14 = .ok (.if_icmp .ne 86, 3) := by decide +kernel
theorem dX10_mainId_17 : decode cX10_mainId 17 = .ok (.aload_n 0, 1) := by decide +kernel
theorem dX10_mainId_18 : decode cX10_mainId 18 = .ok (.getfield 27, 3) := by decide +kernel
theorem dX10_mainId_21 : decode cX10_mainId 21 = .ok (.iload_n 2, 1) := by decide +kernel
theorem dX10_mainId_22 : decode cX10_mainId 22 = .ok (.iaload, 1) := by decide +kernel
theorem dX10_mainId_23 : decode cX10_mainId 23 = .ok (.istore_n 3, 1) := by decide +kernel
theorem dX10_mainId_24 : decode cX10_mainId 24 = .ok (.aload_n 0, 1) := by decide +kernel
theorem dX10_mainId_25 : decode cX10_mainId 25 = .ok (.getfield 30, 3) := by decide +kernel
theorem dX10_mainId_28 : decode cX10_mainId 28 = .ok (.iload_n 2, 1) := by decide +kernel
theorem dX10_mainId_29 : decode cX10_mainId 29 = .ok (.iaload, 1) := by decide +kernel
theorem dX10_mainId_30 : decode cX10_mainId 30 = .ok (.iconst 4, 1) := by decide +kernel
theorem dX10_mainId_31 : decode cX10_mainId 31 = .ok (.if_icmp .ne 63, 3) := by decide +kernel
theorem dX10_mainId_34 : decode cX10_mainId 34 = .ok (.aload_n 0, 1) := by decide +kernel
theorem dX10_mainId_35 : decode cX10_mainId 35 = .ok (.getfield 33, 3) := by decide +kernel
theorem dX10_mainId_38 : decode cX10_mainId 38 = .ok (.iload_n 3, 1) := by decide +kernel
theorem dX10_mainId_39 : decode cX10_mainId 39 = .ok (.invokevirtual 64, 3) := by decide +kernel
theorem dX10_mainId_42 : decode cX10_mainId 42 = .ok (.bipush 109, 2) := by decide +kernel
theorem dX10_mainId_44 : decode cX10_mainId 44 = .ok (.if_icmp .ne 50, 3) := by decide +kernel
theorem dX10_mainId_47 : decode cX10_mainId 47 = .ok (.aload_n 0, 1) := by decide +kernel
theorem dX10_mainId_48 : decode cX10_mainId 48 = .ok (.getfield 33, 3) := by decide +kernel
theorem dX10_mainId_51 : decode cX10_mainId 51 = .ok (.iload_n 3, 1) := by decide +kernel
theorem dX10_mainId_52 : decode cX10_mainId 52 = .ok (.iconst 1, 1) := by decide +kernel
theorem dX10_mainId_53 : decode cX10_mainId 53 = .ok (.iadd, 1) := by decide +kernel
theorem dX10_mainId_54 : decode cX10_mainId 54 = .ok (.invokevirtual 64, 3) := by decide +kernel
theorem dX10_mainId_57 : decode cX10_mainId 57 = .ok (.bipush 97, 2) := by decide +kernel
theorem dX10_mainId_59 : decode cX10_mainId 59 = .ok (.if_icmp .ne 35, 3) := by decide +kernel
theorem dX10_mainId_62 : decode cX10_mainId 62 = .ok (.aload_n 0, 1) := by decide +kernel
theorem dX10_mainId_63 : decode cX10_mainId 63 = .ok (.getfield 33, 3) := by decide +kernel
theorem dX10_mainId_66 : decode cX10_mainId 66 = .ok (.iload_n 3, 1) := by decide +kernel
theorem dX10_mainId_67 : decode cX10_mainId 67 = .ok (.iconst 2, 1) := by decide +kernel
theorem dX10_mainId_68 : decode cX10_mainId 68 = .ok (.iadd, 1) := by decide +kernel
theorem dX10_mainId_69 : decode cX10_mainId 69 = .ok (.invokevirtual 64, 3) := by decide +kernel
theorem dX10_mainId_72 : decode cX10_mainId 72 = .ok (.bipush 105, 2) := by decide +kernel
theorem dX10_mainId_74 : decode cX10_mainId 74 = .ok (.if_icmp .ne 20, 3) := by decide +kernel
theorem dX10_mainId_77 : decode cX10_mainId 77 = .ok (.aload_n 0, 1) := by decide +kernel
theorem dX10_mainId_78 : decode cX10_mainId 78 = .ok (.getfield 33, 3) := by decide +kernel
theorem dX10_mainId_81 : decode cX10_mainId 81 = .ok (.iload_n 3, 1) := by decide +kernel
theorem dX10_mainId_82 : decode cX10_mainId 82 = .ok (.iconst 3, 1) := by decide +kernel
theorem dX10_mainId_83 : decode cX10_mainId 83 = .ok (.iadd, 1) := by decide +kernel
theorem dX10_mainId_84 : decode cX10_mainId 84 = .ok (.invokevirtual 64, 3) := by decide +kernel
theorem dX10_mainId_87 : decode cX10_mainId 87 = .ok (.bipush 110, 2) := by decide +kernel
theorem dX10_mainId_89 : decode cX10_mainId 89 = .ok (.if_icmp .ne 5, 3) := by decide +kernel
theorem dX10_mainId_92 : decode cX10_mainId 92 = .ok (.iload_n 2, 1) := by decide +kernel
theorem dX10_mainId_93 : decode cX10_mainId 93 = .ok (.istore_n 1, 1) := by decide +kernel
theorem dX10_mainId_94 : decode cX10_mainId 94 = .ok (.iinc 2 1, 3) := by decide +kernel
theorem dX10_mainId_97 : decode cX10_mainId 97 = .ok (.goto (-93), 3) := by decide +kernel
theorem dX10_mainId_100 : decode cX10_mainId 100 = .ok (.iload_n 1, 1) := by decide +kernel
theorem dX10_mainId_101 : decode cX10_mainId 101 = .ok (.ireturn, 1) := by decide +kernel
theorem dX10_add_0 : decode cX10_add 0 = .ok (.aload_n 0, 1) := by decide +kernel
theorem dX10_add_1 : decode cX10_add 1 = .ok (.getfield 37, 3) := by decide +kernel
theorem dX10_add_4 : decode cX10_add 4 = .ok (.sipush 4001, 3) := by decide +kernel
theorem dX10_add_7 : decode cX10_add 7 = .ok (.if_icmp .ge 43, 3) := by decide +kernel
theorem dX10_add_10 : decode cX10_add 10 = .ok (.aload_n 0, 1) := by decide +kernel
theorem dX10_add_11 : decode cX10_add 11 = .ok (.getfield 9, 3) := by decide +kernel
theorem dX10_add_14 : decode cX10_add 14 = .ok (.aload_n 0, 1) := by decide +kernel
theorem dX10_add_15 : decode cX10_add 15 = .ok (.getfield 37, 3) := by decide +kernel
theorem dX10_add_18 : decode cX10_add 18 = .ok (.iload_n 1, 1) := by decide +kernel
theorem dX10_add_19 : decode cX10_add 19 = .ok (.iastore, 1) := by decide +kernel
theorem dX10_add_20 : decode cX10_add 20 = .ok (.aload_n 0, 1) := by decide +kernel
theorem dX10_add_21 : decode cX10_add 21 = .ok (.getfield 15, 3) := by decide +kernel
theorem dX10_add_24 : decode cX10_add 24 = .ok (.aload_n 0, 1) := by decide +kernel
theorem dX10_add_25 : decode cX10_add 25 = .ok (.getfield 37, 3) := by decide +kernel
theorem dX10_add_28 : decode cX10_add 28 = .ok (.iload_n 2, 1) := by decide +kernel
theorem dX10_add_29 : decode cX10_add 29 = .ok (.iastore, 1) := by decide +kernel
theorem dX10_add_30 : decode cX10_add 30 = .ok (.aload_n 0, 1) := by decide +kernel
theorem dX10_add_31 : decode cX10_add 31 = .ok (.getfield 18, 3) := by decide +kernel
theorem dX10_add_34 : decode cX10_add 34 = .ok (.aload_n 0, 1) := by decide +kernel
theorem dX10_add_35 : decode cX10_add 35 = .ok (.getfield 37, 3) := by decide +kernel
theorem dX10_add_38 : decode cX10_add 38 = .ok (.iload_n 3, 1) := by decide +kernel
theorem dX10_add_39 : decode cX10_add 39 = .ok (.iastore, 1) := by decide +kernel
theorem dX10_add_40 : decode cX10_add 40 = .ok (.aload_n 0, 1) := by decide +kernel
theorem dX10_add_41 : decode cX10_add 41 = .ok (.dup, 1) := by decide +kernel
theorem dX10_add_42 : decode cX10_add 42 = .ok (.getfield 37, 3) := by decide +kernel
theorem dX10_add_45 : decode cX10_add 45 = .ok (.iconst 1, 1) := by decide +kernel
theorem dX10_add_46 : decode cX10_add 46 = .ok (.iadd, 1) := by decide +kernel
theorem dX10_add_47 : decode cX10_add 47 = .ok (.putfield 37, 3) := by decide +kernel
theorem dX10_add_50 : decode cX10_add 50 = .ok (.return_, 1) := by decide +kernel
theorem dX10_behindGap_0 : decode cX10_behindGap 0 = .ok (.iload_n 1, 1) := by decide +kernel
theorem dX10_behindGap_1 : decode cX10_behindGap 1 = .ok (.istore_n 2, 1) := by decide +kernel
theorem dX10_behindGap_2 : decode cX10_behindGap 2 = .ok (.iconst 0, 1) := by decide +kernel
theorem dX10_behindGap_3 : decode cX10_behindGap 3 = .ok (.istore_n 3, 1) := by decide +kernel
theorem dX10_behindGap_4 : decode cX10_behindGap 4 = .ok (.iload_n 3, 1) := by decide +kernel
theorem dX10_behindGap_5 : decode cX10_behindGap 5 = .ok (.sipush 4000, 3) := by decide +kernel
theorem dX10_behindGap_8 : decode cX10_behindGap 8 = .ok (.if_icmp .ge 122, 3) := by decide +kernel
theorem dX10_behindGap_11 : decode cX10_behindGap 11 = .ok (.iload_n 2, 1) := by decide +kernel
theorem dX10_behindGap_12 : decode cX10_behindGap 12 = .ok (.aload_n 0, 1) := by decide +kernel
theorem dX10_behindGap_13 : decode cX10_behindGap 13 = .ok (.getfield 33, 3) := by decide +kernel
theorem dX10_behindGap_16 : decode cX10_behindGap 16 = .ok (.getfield 50, 3) := by decide +kernel
theorem dX10_behindGap_19 : decode cX10_behindGap 19 = .ok (.if_icmp .ge 111, 3) := by decide +kernel
theorem dX10_behindGap_22 : decode cX10_behindGap 22 = .ok (.aload_n 0, 1) := by decide +kernel
theorem dX10_behindGap_23 : decode cX10_behindGap 23 = .ok (.getfield 33, 3) := by decide +kernel
theorem dX10_behindGap_26 : decode cX10_behindGap 26 = .ok (.iload_n 2, 1) := by decide +kernel
theorem dX10_behindGap_27 : decode cX10_behindGap 27 = .ok (.invokevirtual 64, 3) := by decide +kernel
theorem dX10_behindGap_30 : decode cX10_behindGap 30 = .ok (.istore 4, 2) := by decide +kernel
theorem dX10_behindGap_32 : decode cX10_behindGap 32 = .ok (.aload_n 0, 1) := by decide +kernel
theorem dX10_behindGap_33 : decode cX10_behindGap 33 = .ok (.getfield 33, 3) := by decide +kernel
theorem dX10_behindGap_36 : decode cX10_behindGap 36 = .ok (.iload_n 2, 1) := by decide +kernel
theorem dX10_behindGap_37 : decode cX10_behindGap 37 = .ok (.iconst 1, 1) := by decide +kernel
theorem dX10_behindGap_38 : decode cX10_behindGap 38 = .ok (.iadd, 1) := by decide +kernel
theorem dX10_behindGap_39 : decode cX10_behindGap 39 = .ok (.invokevirtual 64, 3) := by decide +kernel
theorem dX10_behindGap_42 : decode cX10_behindGap 42 = .ok (.istore 5, 2) := by decide +kernel
theorem dX10_behindGap_44 : decode cX10_behindGap 44 = .ok (.iload 4, 2) := by decide +kernel
theorem dX10_behindGap_46 : decode cX10_behindGap 46 = .ok (.bipush 10, 2) := by decide +kernel
theorem dX10_behindGap_48 : decode cX10_behindGap 48 = .ok (.if_icmp .eq 10, 3) := by decide +kernel
theorem dX10_behindGap_51 : decode cX10_behindGap 51 = .ok (.iload 4, 2) := by decide +kernel
theorem dX10_behindGap_53 : decode cX10_behindGap 53 = .ok (.bipush 32, 2) := by decide +kernel
theorem dX10_behindGap_55 : decode cX10_behindGap 55 = .ok (.if_icmp .ne 9, 3) := by decide +kernel
theorem dX10_behindGap_58 : decode cX10_behindGap 58 = .ok (.iinc 2 1, 3) := by decide +kernel
theorem dX10_behindGap_61 : decode cX10_behindGap 61 = .ok (.goto 63, 3) := by decide +kernel
theorem dX10_behindGap_64 : decode cX10_behindGap 64 = .ok (.iload 4, 2) := by decide +kernel
theorem dX10_behindGap_66 : decode cX10_behindGap 66 = .ok (.bipush 47, 2) := by decide +kernel
theorem dX10_behindGap_68 : decode cX10_behindGap 68 = .ok (.if_icmp .ne 19, 3) := by decide +kernel
theorem dX10_behindGap_71 : decode cX10_behindGap 71 = .ok (.iload 5, 2) := by decide +kernel
theorem dX10_behindGap_73 : decode cX10_behindGap 73 = .ok (.bipush 47, 2) := by decide +kernel
theorem dX10_behindGap_75 : decode cX10_behindGap 75 = .ok (.if_icmp .ne 12, 3) := by decide +kernel
theorem dX10_behindGap_78 : decode cX10_behindGap 78 = .ok (.aload_n 0, 1) := by decide +kernel
theorem dX10_behindGap_79 : decode cX10_behindGap 79 = .ok (.iload_n 2, 1) := by decide +kernel
theorem dX10_behindGap_80 : decode cX10_behindGap 80 = .ok (.invokevirtual 67, 3) := by decide +kernel
theorem dX10_behindGap_83 : decode cX10_behindGap 83 = .ok (.istore_n 2, 1) := by decide +kernel
theorem dX10_behindGap_84 : decode cX10_behindGap 84 = .ok (.goto 40, 3) := by decide +kernel
theorem dX10_behindGap_87 : decode cX10_behindGap 87 = .ok (.iload 4, 2) := by decide +kernel
theorem dX10_behindGap_89 : decode cX10_behindGap 89 = .ok (.bipush 47, 2) := by decide +kernel
theorem dX10_behindGap_91 : decode cX10_behindGap 91 = .ok (.if_icmp .ne 31, 3) := by decide +kernel
theorem dX10_behindGap_94 : decode cX10_behindGap 94 = .ok (.iload 5, 2) := by decide +kernel
theorem dX10_behindGap_96 : decode cX10_behindGap 96 = .ok (.bipush 42, 2) := by decide +kernel
theorem dX10_behindGap_98 : decode cX10_behindGap 98 = .ok (.if_icmp .ne 24, 3) := by decide +kernel
theorem dX10_behindGap_101 : decode cX10_behindGap 101 = .ok (.aload_n 0, 1) := by decide +kernel
theorem dX10_behindGap_102 : decode cX10_behindGap 102 = .ok (.iload_n 2, 1) := by decide +kernel
theorem dX10_behindGap_103 : decode cX10_behindGap 103 = .ok (.invokevirtual 70, 3) := by decide +kernel
theorem dX10_behindGap_106 : decode cX10_behindGap 106 = .ok (.istore 6, 2) := by decide +kernel
theorem dX10_behindGap_108 : decode cX10_behindGap 108 = .ok (.iload 6, 2) := by decide +kernel
theorem dX10_behindGap_110 : decode cX10_behindGap 110 = .ok (.iconst (-1), 1) := by decide +kernel
theorem dX10_behindGap_111 : decode cX10_behindGap 111 = .ok (.if_icmp .ne 5, 3) := by decide +kernel
theorem dX10_behindGap_114 : decode cX10_behindGap 114 = .ok (.iload_n 2, 1) := by decide +kernel
theorem dX10_behindGap_115 : decode cX10_behindGap 115 = .ok (.ireturn, 1) := by decide +kernel
theorem dX10_behindGap_116 : decode cX10_behindGap 116 = .ok (.iload 6, 2) := by decide +kernel
theorem dX10_behindGap_118 : decode cX10_behindGap 118 = .ok (.istore_n 2, 1) := by decide +kernel
theorem dX10_behindGap_119 : decode cX10_behindGap 119 = .ok (.goto 5, 3) := by decide +kernel
theorem dX10_behindGap_122 : decode cX10_behindGap 122 = .ok (.iload_n 2, 1) := by decide +kernel
theorem dX10_behindGap_123 : decode cX10_behindGap 123 = .ok (.ireturn, 1) := by decide +kernel
theorem dX10_behindGap_124 : decode cX10_behindGap 124 = .ok (.iinc 3 1, 3) := by decide +kernel
theorem dX10_behindGap_127 : decode cX10_behindGap 127 = .ok (.goto (-123), 3) := by decide +kernel
theorem dX10_behindGap_130 : decode cX10_behindGap 130 = .ok (.iload_n 2, 1) := by decide +kernel
theorem dX10_behindGap_131 : decode cX10_behindGap 131 = .ok (.ireturn, 1) := by decide +kernel
theorem dX10_behindLine_0 : decode cX10_behindLine 0 = .ok (.iload_n 1, 1) := by decide +kernel
theorem dX10_behindLine_1 : decode cX10_behindLine 1 = .ok (.istore_n 2, 1) := by decide +kernel
theorem dX10_behindLine_2 : decode cX10_behindLine 2 = .ok (.iload_n 2, 1) := by decide +kernel
theorem dX10_behindLine_3 : decode cX10_behindLine 3 = .ok (.aload_n 0, 1) := by decide +kernel
theorem dX10_behindLine_4 : decode cX10_behindLine 4 = .ok (.getfield 33, 3) := by decide +kernel
theorem dX10_behindLine_7 : decode cX10_behindLine 7 = .ok (.getfield 50, 3) := by decide +kernel
theorem dX10_behindLine_10 : decode cX10_behindLine 10 = .ok (.if_icmp .ge 22, 3) := by decide +kernel
theorem dX10_behindLine_13 : decode cX10_behindLine 13 = .ok (.aload_n 0, 1) := by decide +kernel
theorem dX10_behindLine_14 : decode cX10_behindLine 14 = .ok (.getfield 33, 3) := by decide +kernel
theorem dX10_behindLine_17 : decode cX10_behindLine 17 = .ok (.iload_n 2, 1) := by decide +kernel
theorem dX10_behindLine_18 : decode cX10_behindLine 18 = .ok (.invokevirtual 64, 3) := by decide +kernel
theorem dX10_behindLine_21 : decode cX10_behindLine 21 = .ok (.bipush 10, 2) := by decide +kernel
theorem dX10_behindLine_23 : decode cX10_behindLine 23 = .ok (.if_icmp .eq 9, 3) := by decide +kernel
theorem dX10_behindLine_26 : decode cX10_behindLine 26 = .ok (.iinc 2 1, 3) := by decide +kernel
theorem dX10_behindLine_29 : decode cX10_behindLine 29 = .ok (.goto (-27), 3) := by decide +kernel
theorem dX10_behindLine_32 : decode cX10_behindLine 32 = .ok (.iload_n 2, 1) := by decide +kernel
theorem dX10_behindLine_33 : decode cX10_behindLine 33 = .ok (.ireturn, 1) := by decide +kernel
theorem dX10_behindNote_0 : decode cX10_behindNote 0 = .ok (.iload_n 1, 1) := by decide +kernel
theorem dX10_behindNote_1 : decode cX10_behindNote 1 = .ok (.iconst 2, 1) := by decide +kernel
theorem dX10_behindNote_2 : decode cX10_behindNote 2 = .ok (.iadd, 1) := by decide +kernel
theorem dX10_behindNote_3 : decode cX10_behindNote 3 = .ok (.istore_n 2, 1) := by decide +kernel
theorem dX10_behindNote_4 : decode cX10_behindNote 4 = .ok (.iload_n 2, 1) := by decide +kernel
theorem dX10_behindNote_5 : decode cX10_behindNote 5 = .ok (.aload_n 0, 1) := by decide +kernel
theorem dX10_behindNote_6 : decode cX10_behindNote 6 = .ok (.getfield 33, 3) := by decide +kernel
theorem dX10_behindNote_9 : decode cX10_behindNote 9 = .ok (.getfield 50, 3) := by decide +kernel
theorem dX10_behindNote_12 : decode cX10_behindNote 12 = .ok (.if_icmp .ge 41, 3) := by decide +kernel
theorem dX10_behindNote_15 : decode cX10_behindNote 15 = .ok (.aload_n 0, 1) := by decide +kernel
theorem dX10_behindNote_16 : decode cX10_behindNote 16 = .ok (.getfield 33, 3) := by decide +kernel
theorem dX10_behindNote_19 : decode cX10_behindNote 19 = .ok (.iload_n 2, 1) := by decide +kernel
theorem dX10_behindNote_20 : decode cX10_behindNote 20 = .ok (.invokevirtual 64, 3) := by decide +kernel
theorem dX10_behindNote_23 : decode cX10_behindNote 23 = .ok (.bipush 42, 2) := by decide +kernel
theorem dX10_behindNote_25 : decode cX10_behindNote 25 = .ok (.if_icmp .ne 22, 3) := by decide +kernel
theorem dX10_behindNote_28 : decode cX10_behindNote 28 = .ok (.aload_n 0, 1) := by decide +kernel
theorem dX10_behindNote_29 : decode cX10_behindNote 29 = .ok (.getfield 33, 3) := by decide +kernel
theorem dX10_behindNote_32 : decode cX10_behindNote 32 = .ok (.iload_n 2, 1) := by decide +kernel
theorem dX10_behindNote_33 : decode cX10_behindNote 33 = .ok (.iconst 1, 1) := by decide +kernel
theorem dX10_behindNote_34 : decode cX10_behindNote 34 = .ok (.iadd, 1) := by decide +kernel
theorem dX10_behindNote_35 : decode cX10_behindNote 35 = .ok (.invokevirtual 64, 3) := by decide +kernel
theorem dX10_behindNote_38 : decode cX10_behindNote 38 = .ok (.bipush 47, 2) := by decide +kernel
theorem dX10_behindNote_40 : decode cX10_behindNote 40 = .ok (.if_icmp .ne 7, 3) := by decide +kernel
theorem dX10_behindNote_43 : decode cX10_behindNote 43 = .ok (.iload_n 2, 1) := by decide +kernel
theorem dX10_behindNote_44 : decode cX10_behindNote 44 = .ok (.iconst 2, 1) := by decide +kernel
theorem dX10_behindNote_45 : decode cX10_behindNote 45 = .ok (.iadd, 1) := by decide +kernel
theorem dX10_behindNote_46 : decode cX10_behindNote 46 = .ok (.ireturn, 1) := by decide +kernel
theorem dX10_behindNote_47 : decode cX10_behindNote 47 = .ok (.iinc 2 1, 3) := by decide +kernel
theorem dX10_behindNote_50 : decode cX10_behindNote 50 = .ok (.goto (-46), 3) := by decide +kernel
theorem dX10_behindNote_53 : decode cX10_behindNote 53 = .ok (.iconst (-1), 1) := by decide +kernel
theorem dX10_behindNote_54 : decode cX10_behindNote 54 = .ok (.ireturn, 1) := by decide +kernel
theorem dX10_behindToken_0 : decode cX10_behindToken 0 = .ok (.aload_n 0, 1) := by decide +kernel
theorem dX10_behindToken_1 : decode cX10_behindToken 1 = .ok (.getfield 33, 3) := by decide +kernel
theorem dX10_behindToken_4 : decode cX10_behindToken 4 = .ok (.iload_n 1, 1) := by decide +kernel
theorem dX10_behindToken_5 : decode cX10_behindToken 5 = .ok (.invokevirtual 64, 3) := by decide +kernel
theorem dX10_behindToken_8 : decode cX10_behindToken 8 = .ok (.istore_n 2, 1) := by decide +kernel
theorem dX10_behindToken_9 : decode cX10_behindToken 9 = .ok (.iload_n 2, 1) := by decide +kernel
theorem dX10_behindToken_10 : decode cX10_behindToken 10 = .ok (.invokestatic 73, 3) := by decide +kernel
theorem dX10_behindToken_13 : decode cX10_behindToken 13 = .ok (.ifCond .eq 12, 3) := by decide +kernel
theorem dX10_behindToken_16 : decode cX10_behindToken 16 = .ok (.aload_n 0, 1) := by decide +kernel
theorem dX10_behindToken_17 : decode cX10_behindToken 17 = .ok (.iload_n 1, 1) := by decide +kernel
theorem dX10_behindToken_18 : decode cX10_behindToken 18 = .ok (.invokevirtual 77, 3) := by decide +kernel
theorem dX10_behindToken_21 : decode cX10_behindToken 21 = .ok (.istore_n 3, 1) := by decide +kernel
theorem dX10_behindToken_22 : decode cX10_behindToken 22 = .ok (.goto 26, 3) := by decide +kernel
theorem dX10_behindToken_25 : decode cX10_behindToken 25 = .ok (.iload_n 2, 1) := by decide +kernel
theorem dX10_behindToken_26 : decode cX10_behindToken 26 = .ok (.invokestatic 80, 3) := by decide +kernel
theorem dX10_behindToken_29 : decode cX10_behindToken 29 = .ok (.ifCond .eq 12, 3) := by decide +kernel
theorem dX10_behindToken_32 : decode cX10_behindToken 32 = .ok (.aload_n 0, 1) := by decide +kernel
theorem dX10_behindToken_33 : decode cX10_behindToken 33 = .ok (.iload_n 1, 1) := by decide +kernel
theorem dX10_behindToken_34 : decode cX10_behindToken 34 = .ok (.invokevirtual 83, 3) := by decide +kernel
theorem dX10_behindToken_37 : decode cX10_behindToken 37 = .ok (.istore_n 3, 1) := by decide +kernel
theorem dX10_behindToken_38 : decode cX10_behindToken 38 = .ok (.goto 10, 3) := by decide +kernel
theorem dX10_behindToken_41 : decode cX10_behindToken 41 = .ok (.aload_n 0, 1) := by decide +kernel
theorem dX10_behindToken_42 : decode cX10_behindToken 42 = .ok (.iload_n 1, 1) := by decide +kernel
theorem dX10_behindToken_43 : decode cX10_behindToken 43 = .ok (.iload_n 2, 1) := by decide +kernel
theorem dX10_behindToken_44 : decode cX10_behindToken 44 = .ok (.invokevirtual 86, 3) := by decide +kernel
theorem dX10_behindToken_47 : decode cX10_behindToken 47 = .ok (.istore_n 3, 1) := by decide +kernel
theorem dX10_behindToken_48 : decode cX10_behindToken 48 = .ok (.iload_n 3, 1) := by decide +kernel
theorem dX10_behindToken_49 : decode cX10_behindToken 49 = .ok (.iconst (-1), 1) := by decide +kernel
theorem dX10_behindToken_50 : decode cX10_behindToken 50 = .ok (.if_icmp .ne 10, 3) := by decide +kernel
theorem dX10_behindToken_53 : decode cX10_behindToken 53 = .ok (.aload_n 0, 1) := by decide +kernel
theorem dX10_behindToken_54 : decode cX10_behindToken 54 = .ok (.iconst 1, 1) := by decide +kernel
theorem dX10_behindToken_55 : decode cX10_behindToken 55 = .ok (.iconst 0, 1) := by decide +kernel
theorem dX10_behindToken_56 : decode cX10_behindToken 56 = .ok (.iload_n 1, 1) := by decide +kernel
theorem dX10_behindToken_57 : decode cX10_behindToken 57 = .ok (.invokevirtual 60, 3) := by decide +kernel
theorem dX10_behindToken_60 : decode cX10_behindToken 60 = .ok (.iload_n 3, 1) := by decide +kernel
theorem dX10_behindToken_61 : decode cX10_behindToken 61 = .ok (.ireturn, 1) := by decide +kernel
theorem dX10_isDigit_0 : decode cX10_isDigit 0 = .ok (.iload_n 0, 1) := by decide +kernel
theorem dX10_isDigit_1 : decode cX10_isDigit 1 = .ok (.bipush 48, 2) := by decide +kernel
theorem dX10_isDigit_3 : decode cX10_isDigit 3 = .ok (.if_icmp .lt 13, 3) := by decide +kernel
theorem dX10_isDigit_6 : decode cX10_isDigit 6 = .ok (.iload_n 0, 1) := by decide +kernel
theorem dX10_isDigit_7 : decode cX10_isDigit 7 = .ok (.bipush 57, 2) := by decide +kernel
theorem dX10_isDigit_9 : decode cX10_isDigit 9 = .ok (.if_icmp .gt 7, 3) := by decide +kernel
theorem dX10_isDigit_12 : decode cX10_isDigit 12 = .ok (.iconst 1, 1) := by decide +kernel
theorem dX10_isDigit_13 : decode cX10_isDigit 13 = .ok (.goto 4, 3) := by decide +kernel
theorem dX10_isDigit_16 : decode cX10_isDigit 16 = .ok (.iconst 0, 1) := by decide +kernel
theorem dX10_isDigit_17 : decode cX10_isDigit 17 = .ok (.ireturn, 1) := by decide +kernel
theorem dX10_isPart_0 : decode cX10_isPart 0 = .ok (.iload_n 0, 1) := by decide +kernel
theorem dX10_isPart_1 : decode cX10_isPart 1 = .ok (.invokestatic 73, 3) := by decide +kernel
theorem dX10_isPart_4 : decode cX10_isPart 4 = .ok (.ifCond .ne 33, 3) := by decide +kernel
theorem dX10_isPart_7 : decode cX10_isPart 7 = .ok (.iload_n 0, 1) := by decide +kernel
theorem dX10_isPart_8 : decode cX10_isPart 8 = .ok (.bipush 97, 2) := by decide +kernel
theorem dX10_isPart_10 : decode cX10_isPart 10 = .ok (.if_icmp .lt 9, 3) := by decide +kernel
theorem dX10_isPart_13 : decode cX10_isPart 13 = .ok (.iload_n 0, 1) := by decide +kernel
theorem dX10_isPart_14 : decode cX10_isPart 14 = .ok (.bipush 122, 2) := by decide +kernel
theorem dX10_isPart_16 : decode cX10_isPart 16 = .ok (.if_icmp .le 21, 3) := by decide +kernel
theorem dX10_isPart_19 : decode cX10_isPart 19 = .ok (.iload_n 0, 1) := by decide +kernel
theorem dX10_isPart_20 : decode cX10_isPart 20 = .ok (.bipush 65, 2) := by decide +kernel
theorem dX10_isPart_22 : decode cX10_isPart 22 = .ok (.if_icmp .lt 9, 3) := by decide +kernel
theorem dX10_isPart_25 : decode cX10_isPart 25 = .ok (.iload_n 0, 1) := by decide +kernel
theorem dX10_isPart_26 : decode cX10_isPart 26 = .ok (.bipush 90, 2) := by decide +kernel
theorem dX10_isPart_28 : decode cX10_isPart 28 = .ok (.if_icmp .le 9, 3) := by decide +kernel
theorem dX10_isPart_31 : decode cX10_isPart 31 = .ok (.iload_n 0, 1) := by decide +kernel
theorem dX10_isPart_32 : decode cX10_isPart 32 = .ok (.bipush 95, 2) := by decide +kernel
theorem dX10_isPart_34 : decode cX10_isPart 34 = .ok (.if_icmp .ne 7, 3) := by decide +kernel
theorem dX10_isPart_37 : decode cX10_isPart 37 = .ok (.iconst 1, 1) := by decide +kernel
theorem dX10_isPart_38 : decode cX10_isPart 38 = .ok (.goto 4, 3) := by decide +kernel
theorem dX10_isPart_41 : decode cX10_isPart 41 = .ok (.iconst 0, 1) := by decide +kernel
theorem dX10_isPart_42 : decode cX10_isPart 42 = .ok (.ireturn, 1) := by decide +kernel
theorem dX10_behindParts_0 : decode cX10_behindParts 0 = .ok (.iload_n 1, 1) := by decide +kernel
theorem dX10_behindParts_1 : decode cX10_behindParts 1 = .ok (.istore_n 2, 1) := by decide +kernel
theorem dX10_behindParts_2 : decode cX10_behindParts 2 = .ok (.iload_n 2, 1) := by decide +kernel
theorem dX10_behindParts_3 : decode cX10_behindParts 3 = .ok (.aload_n 0, 1) := by decide +kernel
theorem dX10_behindParts_4 : decode cX10_behindParts 4 = .ok (.getfield 33, 3) := by decide +kernel
theorem dX10_behindParts_7 : decode cX10_behindParts 7 = .ok (.getfield 50, 3) := by decide +kernel
theorem dX10_behindParts_10 : decode cX10_behindParts 10 = .ok (.if_icmp .ge 23, 3) := by decide +kernel
theorem dX10_behindParts_13 : decode cX10_behindParts 13 = .ok (.aload_n 0, 1) := by decide +kernel
theorem dX10_behindParts_14 : decode cX10_behindParts 14 = .ok (.getfield 33, 3) := by decide +kernel
theorem dX10_behindParts_17 : decode cX10_behindParts 17 = .ok (.iload_n 2, 1) := by decide +kernel
theorem dX10_behindParts_18 : decode cX10_behindParts 18 = .ok (.invokevirtual 64, 3) := by decide +kernel
theorem dX10_behindParts_21 : decode cX10_behindParts 21 = .ok (.invokestatic 80, 3) := by decide +kernel
theorem dX10_behindParts_24 : decode cX10_behindParts 24 = .ok (.ifCond .eq 9, 3) := by decide +kernel
theorem dX10_behindParts_27 : decode cX10_behindParts 27 = .ok (.iinc 2 1, 3) := by decide +kernel
theorem dX10_behindParts_30 : decode cX10_behindParts 30 = .ok (.goto (-28), 3) := by decide +kernel
theorem dX10_behindParts_33 : decode cX10_behindParts 33 = .ok (.iload_n 2, 1) := by decide +kernel
theorem dX10_behindParts_34 : decode cX10_behindParts 34 = .ok (.ireturn, 1) := by decide +kernel
theorem dX10_behindName_0 : decode cX10_behindName 0 = .ok (.aload_n 0, 1) := by decide +kernel
theorem dX10_behindName_1 : decode cX10_behindName 1 = .ok (.iload_n 1, 1) := by decide +kernel
theorem dX10_behindName_2 : decode cX10_behindName 2 = .ok (.invokevirtual 90, 3) := by decide +kernel
theorem dX10_behindName_5 : decode cX10_behindName 5 = .ok (.istore_n 2, 1) := by decide +kernel
theorem dX10_behindName_6 : decode cX10_behindName 6 = .ok (.iload_n 2, 1) := by decide +kernel
theorem dX10_behindName_7 : decode cX10_behindName 7 = .ok (.iload_n 1, 1) := by decide +kernel
theorem dX10_behindName_8 : decode cX10_behindName 8 = .ok (.isub, 1) := by decide +kernel
theorem dX10_behindName_9 : decode cX10_behindName 9 = .ok (.istore_n 3, 1) := by decide +kernel
theorem dX10_behindName_10 : decode cX10_behindName 10 = .ok (.iload_n 3, 1) := by decide +kernel
theorem dX10_behindName_11 : decode cX10_behindName 11 = .ok (.bipush 16, 2) := by decide +kernel
theorem dX10_behindName_13 : decode cX10_behindName 13 = .ok (.if_icmp .le 5, 3) := by decide +kernel
theorem dX10_behindName_16 : decode cX10_behindName 16 = .ok (.iconst (-1), 1) := by decide +kernel
theorem dX10_behindName_17 : decode cX10_behindName 17 = .ok (.ireturn, 1) := by decide +kernel
theorem dX10_behindName_18 : decode cX10_behindName 18 = .ok (.aload_n 0, 1) := by decide +kernel
theorem dX10_behindName_19 : decode cX10_behindName 19 = .ok (.iload_n 1, 1) := by decide +kernel
theorem dX10_behindName_20 : decode cX10_behindName 20 = .ok (.iload_n 3, 1) := by decide +kernel
theorem dX10_behindName_21 : decode cX10_behindName 21 = .ok (.invokevirtual 93, 3) := by decide +kernel
theorem dX10_behindName_24 : decode cX10_behindName 24 = .ok (.istore 4, 2) := by decide +kernel
theorem dX10_behindName_26 : decode cX10_behindName 26 = .ok (.iload 4, 2) := by decide +kernel
theorem dX10_behindName_28 : decode cX10_behindName 28 = .ok (.iconst (-1), 1) := by decide +kernel
theorem dX10_behindName_29 : decode cX10_behindName 29 = .ok (.if_icmp .eq 14, 3) := by decide +kernel
theorem dX10_behindName_32 : decode cX10_behindName 32 = .ok (.aload_n 0, 1) := by decide +kernel
theorem dX10_behindName_33 : decode cX10_behindName 33 = .ok (.iload 4, 2) := by decide +kernel
theorem dX10_behindName_35 : decode cX10_behindName 35 = .ok (.iconst 0, 1) := by decide +kernel
theorem dX10_behindName_36 : decode cX10_behindName 36 = .ok (.iload_n 1, 1) := by decide +kernel
theorem dX10_behindName_37 : decode cX10_behindName 37 = .ok (.invokevirtual 60, 3) := by decide +kernel
theorem dX10_behindName_40 : decode cX10_behindName 40 = .ok (.goto 15, 3) := by decide +kernel
theorem dX10_behindName_43 : decode cX10_behindName 43 = .ok (.aload_n 0, 1) := by decide +kernel
theorem dX10_behindName_44 : decode cX10_behindName 44 = .ok (.iconst 2, 1) := by decide +kernel
theorem dX10_behindName_45 : decode cX10_behindName 45 = .ok (.aload_n 0, 1) := by decide +kernel
theorem dX10_behindName_46 : decode cX10_behindName 46 = .ok (.iload_n 1, 1) := by decide +kernel
theorem dX10_behindName_47 : decode cX10_behindName 47 = .ok (.iload_n 3, 1) := by decide +kernel
theorem dX10_behindName_48 : decode cX10_behindName 48 = .ok (.invokevirtual 96, 3) := by decide +kernel
theorem dX10_behindName_51 : decode cX10_behindName 51 = .ok (.iload_n 1, 1) := by decide +kernel
theorem dX10_behindName_52 : decode cX10_behindName 52 = .ok (.invokevirtual 60, 3) := by decide +kernel
theorem dX10_behindName_55 : decode cX10_behindName 55 = .ok (.iload_n 2, 1) := by decide +kernel
theorem dX10_behindName_56 : decode cX10_behindName 56 = .ok (.ireturn, 1) := by decide +kernel
theorem dX10_wordAt_0 : decode cX10_wordAt 0 = .ok (.iconst 4, 1) := by decide +kernel
theorem dX10_wordAt_1 : decode cX10_wordAt 1 = .ok (.istore_n 3, 1) := by decide +kernel
theorem dX10_wordAt_2 : decode cX10_wordAt 2 = .ok (.iload_n 3, 1) := by decide +kernel
theorem dX10_wordAt_3 : decode cX10_wordAt 3 = .ok (.bipush 18, 2) := by decide +kernel
theorem dX10_wordAt_5 : decode cX10_wordAt 5 = .ok (.if_icmp .gt 108, 3) := by decide +kernel
theorem dX10_wordAt_8 : decode cX10_wordAt 8 = .ok (.iload_n 2, 1) := by decide +kernel
theorem dX10_wordAt_9 : decode cX10_wordAt 9 = .ok (.bipush 8, 2) := by decide +kernel
theorem dX10_wordAt_11 : decode cX10_wordAt 11 = .ok (.if_icmp .gt 102, 3) := by decide +kernel
theorem dX10_wordAt_14 : decode cX10_wordAt 14 = .ok (.iload_n 3, 1) := by decide +kernel
theorem dX10_wordAt_15 : decode cX10_wordAt 15 = .ok (.iconst 4, 1) := by decide +kernel
theorem dX10_wordAt_16 : decode cX10_wordAt 16 = .ok (.isub, 1) := by decide +kernel
theorem dX10_wordAt_17 : decode cX10_wordAt 17 = .ok (.bipush 8, 2) := by decide +kernel
theorem dX10_wordAt_19 : decode cX10_wordAt 19 = .ok (.imul, 1) := by decide +kernel
theorem dX10_wordAt_20 : decode cX10_wordAt 20 = .ok (.istore 4, 2) := by decide +kernel
theorem dX10_wordAt_22 : decode cX10_wordAt 22 = .ok (.iload_n 2, 1) := by decide +kernel
theorem dX10_wordAt_23 : decode cX10_wordAt 23 = .ok (.bipush 8, 2) := by decide +kernel
theorem dX10_wordAt_25 : decode cX10_wordAt 25 = .ok (.if_icmp .eq 17, 3) := by decide +kernel
theorem dX10_wordAt_28 : decode cX10_wordAt 28 = .ok (.ldc 99, 2) := by decide +kernel
theorem dX10_wordAt_30 : decode cX10_wordAt 30 = .ok (.iload 4, 2) := by decide +kernel
theorem dX10_wordAt_32 : decode cX10_wordAt 32 = .ok (.iload_n 2, 1) := by decide +kernel
theorem dX10_wordAt_33 : decode cX10_wordAt 33 = .ok (.iadd, 1) := by decide +kernel
theorem dX10_wordAt_34 : decode cX10_wordAt 34 = .ok (.invokevirtual 101, 3) := by decide +kernel
theorem dX10_wordAt_37 : decode cX10_wordAt 37 = .ok (.bipush 32, 2) := by decide +kernel
theorem dX10_wordAt_39 : decode cX10_wordAt 39 = .ok (.if_icmp .ne 7, 3) := by decide +kernel
theorem dX10_wordAt_42 : decode cX10_wordAt 42 = .ok (.iconst 1, 1) := by decide +kernel
theorem dX10_wordAt_43 : decode cX10_wordAt 43 = .ok (.goto 4, 3) := by decide +kernel
theorem dX10_wordAt_46 : decode cX10_wordAt 46 = .ok (.iconst 0, 1) := by decide +kernel
theorem dX10_wordAt_47 : decode cX10_wordAt 47 = .ok (.istore 5, 2) := by decide +kernel
theorem dX10_wordAt_49 : decode cX10_wordAt 49 = .ok (.iconst 0, 1) := by decide +kernel
theorem dX10_wordAt_50 : decode cX10_wordAt 50 = .ok (.istore 6, 2) := by decide +kernel
theorem dX10_wordAt_52 : decode cX10_wordAt 52 = .ok (.iload 6, 2) := by decide +kernel
theorem dX10_wordAt_54 : decode cX10_wordAt 54 = .ok (.iload_n 2, 1) := by decide +kernel
theorem dX10_wordAt_55 : decode cX10_wordAt 55 = .ok (.if_icmp .ge 45, 3) := by decide +kernel
theorem dX10_wordAt_58 : decode cX10_wordAt 58 = .ok (.iload 5, 2) := by decide +kernel
theorem dX10_wordAt_60 : decode cX10_wordAt 60 = .ok (.ifCond .eq 40, 3) := by decide +kernel
theorem dX10_wordAt_63 : decode cX10_wordAt 63 = .ok (.ldc 99, 2) := by decide +kernel
theorem dX10_wordAt_65 : decode cX10_wordAt 65 = .ok (.iload 4, 2) := by decide +kernel
theorem dX10_wordAt_67 : decode cX10_wordAt 67 = .ok (.iload 6, 2) := by decide +kernel
theorem dX10_wordAt_69 : decode cX10_wordAt 69 = .ok (.iadd, 1) := by decide +kernel
theorem dX10_wordAt_70 : decode cX10_wordAt 70 = .ok (.invokevirtual 101, 3) := by decide +kernel
theorem dX10_wordAt_73 : decode cX10_wordAt 73 = .ok (.aload_n 0, 1) := by decide +kernel
theorem dX10_wordAt_74 : decode cX10_wordAt 74 = .ok (.getfield 33, 3) := by decide +kernel
theorem dX10_wordAt_77 : decode cX10_wordAt 77 = .ok (.iload_n 1, 1) := by decide +kernel
theorem dX10_wordAt_78 : decode cX10_wordAt 78 = .ok (.iload 6, 2) := by decide +kernel
theorem dX10_wordAt_80 : decode cX10_wordAt 80 = .ok (.iadd, 1) := by decide +kernel
theorem dX10_wordAt_81 : decode cX10_wordAt 81 = .ok (.invokevirtual 64, 3) := by decide +kernel
theorem dX10_wordAt_84 : decode cX10_wordAt 84 = .ok (.if_icmp .ne 7, 3) := by decide +kernel
theorem dX10_wordAt_87 : decode cX10_wordAt 87 = .ok (.iconst 1, 1) := by decide +kernel
theorem dX10_wordAt_88 : decode cX10_wordAt 88 = .ok (.goto 4, 3) := by decide +kernel
theorem dX10_wordAt_91 : decode cX10_wordAt 91 = .ok (.iconst 0, 1) := by decide +kernel
theorem dX10_wordAt_92 : decode cX10_wordAt 92 = .ok (.istore 5, 2) := by decide +kernel
theorem dX10_wordAt_94 : decode cX10_wordAt 94 = .ok (.iinc 6 1, 3) := by decide +kernel
theorem dX10_wordAt_97 : decode cX10_wordAt 97 = .ok (.goto (-45), 3) := by decide +kernel
theorem dX10_wordAt_100 : decode cX10_wordAt 100 = .ok (.iload 5, 2) := by decide +kernel
theorem dX10_wordAt_102 : decode cX10_wordAt 102 = .ok (.ifCond .eq 5, 3) := by decide +kernel
theorem dX10_wordAt_105 : decode cX10_wordAt 105 = .ok (.iload_n 3, 1) := by decide +kernel
theorem dX10_wordAt_106 : decode cX10_wordAt 106 = .ok (.ireturn, 1) := by decide +kernel
theorem dX10_wordAt_107 : decode cX10_wordAt 107 = .ok (.iinc 3 1, 3) := by decide +kernel
theorem dX10_wordAt_110 : decode cX10_wordAt 110 = .ok (.goto (-108), 3) := by decide +kernel
theorem dX10_wordAt_113 : decode cX10_wordAt 113 = .ok (.iconst (-1), 1) := by decide +kernel
theorem dX10_wordAt_114 : decode cX10_wordAt 114 = .ok (.ireturn, 1) := by decide +kernel
theorem dX10_nameAt_0 : decode cX10_nameAt 0 = .ok (.iload_n 2, 1) := by decide +kernel
theorem dX10_nameAt_1 : decode cX10_nameAt 1 = .ok (.istore_n 3, 1) := by decide +kernel
theorem dX10_nameAt_2 : decode cX10_nameAt 2 = .ok (.iconst 0, 1) := by decide +kernel
theorem dX10_nameAt_3 : decode cX10_nameAt 3 = .ok (.istore 4, 2) := by decide +kernel
theorem dX10_nameAt_5 : decode cX10_nameAt 5 = .ok (.iload 4, 2) := by decide +kernel
theorem dX10_nameAt_7 : decode cX10_nameAt 7 = .ok (.iload_n 2, 1) := by decide +kernel
theorem dX10_nameAt_8 : decode cX10_nameAt 8 = .ok (.if_icmp .ge 26, 3) := by decide +kernel
theorem dX10_nameAt_11 : decode cX10_nameAt 11 = .ok (.iload_n 3, 1) := by decide +kernel
theorem dX10_nameAt_12 : decode cX10_nameAt 12 = .ok (.bipush 31, 2) := by decide +kernel
theorem dX10_nameAt_14 : decode cX10_nameAt 14 = .ok (.imul, 1) := by decide +kernel
theorem dX10_nameAt_15 : decode cX10_nameAt 15 = .ok (.aload_n 0, 1) := by decide +kernel
theorem dX10_nameAt_16 : decode cX10_nameAt 16 = .ok (.getfield 33, 3) := by decide +kernel
theorem dX10_nameAt_19 : decode cX10_nameAt 19 = .ok (.iload_n 1, 1) := by decide +kernel
theorem dX10_nameAt_20 : decode cX10_nameAt 20 = .ok (.iload 4, 2) := by decide +kernel
theorem dX10_nameAt_22 : decode cX10_nameAt 22 = .ok (.iadd, 1) := by decide +kernel
theorem dX10_nameAt_23 : decode cX10_nameAt 23 = .ok (.invokevirtual 64, 3) := by decide +kernel
theorem dX10_nameAt_26 : decode cX10_nameAt 26 = .ok (.iadd, 1) := by decide +kernel
theorem dX10_nameAt_27 : decode cX10_nameAt 27 = .ok (.istore_n 3, 1) := by decide +kernel
theorem dX10_nameAt_28 : decode cX10_nameAt 28 = .ok (.iinc 4 1, 3) := by decide +kernel
theorem dX10_nameAt_31 : decode cX10_nameAt 31 = .ok (.goto (-26), 3) := by decide +kernel
theorem dX10_nameAt_34 : decode cX10_nameAt 34 = .ok (.iload_n 3, 1) := by decide +kernel
theorem dX10_nameAt_35 : decode cX10_nameAt 35 = .ok (.iload_n 3, 1) := by decide +kernel
theorem dX10_nameAt_36 : decode cX10_nameAt 36 = .ok (.bipush 10, 2) := by decide +kernel
theorem dX10_nameAt_38 : decode cX10_nameAt 38 = .ok (.iushr, 1) := by decide +kernel
theorem dX10_nameAt_39 : decode cX10_nameAt 39 = .ok (.ixor, 1) := by decide +kernel
theorem dX10_nameAt_40 : decode cX10_nameAt 40 = .ok (.sipush 1023, 3) := by decide +kernel
theorem dX10_nameAt_43 : decode cX10_nameAt 43 = .ok (.iand, 1) := by decide +kernel
theorem dX10_nameAt_44 : decode cX10_nameAt 44 = .ok (.istore 4, 2) := by decide +kernel
theorem dX10_nameAt_46 : decode cX10_nameAt 46 = .ok (.aload_n 0, 1) := by decide +kernel
theorem dX10_nameAt_47 : decode cX10_nameAt 47 = .ok (.getfield 21, 3) := by decide +kernel
theorem dX10_nameAt_50 : decode cX10_nameAt 50 = .ok (.iload 4, 2) := by decide +kernel
theorem dX10_nameAt_52 : decode cX10_nameAt 52 = .ok (.iaload, 1) := by decide +kernel
theorem dX10_nameAt_53 : decode cX10_nameAt 53 = .ok (.istore 5, 2) := by decide +kernel
theorem dX10_nameAt_55 : decode cX10_nameAt 55 = .ok (.iconst 0, 1) := by decide +kernel
theorem dX10_nameAt_56 : decode cX10_nameAt 56 = .ok (.istore 6, 2) := by decide +kernel
theorem dX10_nameAt_58 : decode cX10_nameAt 58 = .ok (.iload 6, 2) := by decide +kernel
theorem dX10_nameAt_60 : decode cX10_nameAt 60 = .ok (.aload_n 0, 1) := by decide +kernel
theorem dX10_nameAt_61 : decode cX10_nameAt 61 = .ok (.getfield 41, 3) := by decide +kernel
theorem dX10_nameAt_64 : decode cX10_nameAt 64 = .ok (.if_icmp .ge 45, 3) := by decide +kernel
theorem dX10_nameAt_67 : decode cX10_nameAt 67 = .ok (.iload 5, 2) := by decide +kernel
theorem dX10_nameAt_69 : decode cX10_nameAt 69 = .ok (.ifCond .lt 40, 3) := by decide +kernel
theorem dX10_nameAt_72 : decode cX10_nameAt 72 = .ok (.iload 5, 2) := by decide +kernel
theorem dX10_nameAt_74 : decode cX10_nameAt 74 = .ok (.sipush 1408, 3) := by decide +kernel
theorem dX10_nameAt_77 : decode cX10_nameAt 77 = .ok (.if_icmp .ge 32, 3) := by decide +kernel
theorem dX10_nameAt_80 : decode cX10_nameAt 80 = .ok (.aload_n 0, 1) := by decide +kernel
theorem dX10_nameAt_81 : decode cX10_nameAt 81 = .ok (.iload 5, 2) := by decide +kernel
theorem dX10_nameAt_83 : decode cX10_nameAt 83 = .ok (.iload_n 1, 1) := by decide +kernel
theorem dX10_nameAt_84 : decode cX10_nameAt 84 = .ok (.iload_n 2, 1) := by decide +kernel
theorem dX10_nameAt_85 : decode cX10_nameAt 85 = .ok (.invokevirtual 107, 3) := by decide +kernel
theorem dX10_nameAt_88 : decode cX10_nameAt 88 = .ok (.ifCond .eq 6, 3) := by decide +kernel
theorem dX10_nameAt_91 : decode cX10_nameAt 91 = .ok (.iload 5, 2) := by decide +kernel
theorem dX10_nameAt_93 : decode cX10_nameAt 93 = .ok (.ireturn, 1) := by decide +kernel
theorem dX10_nameAt_94 : decode cX10_nameAt 94 = .ok (.aload_n 0, 1) := by decide +kernel
theorem dX10_nameAt_95 : decode cX10_nameAt 95 = .ok (.getfield 24, 3) := by decide +kernel
theorem dX10_nameAt_98 : decode cX10_nameAt 98 = .ok (.iload 5, 2) := by decide +kernel
theorem dX10_nameAt_100 : decode cX10_nameAt 100 = .ok (.iaload, 1) := by decide +kernel
theorem dX10_nameAt_101 : decode cX10_nameAt 101 = .ok (.istore 5, 2) := by decide +kernel
theorem dX10_nameAt_103 : decode cX10_nameAt 103 = .ok (.iinc 6 1, 3) := by decide +kernel
theorem dX10_nameAt_106 : decode cX10_nameAt 106 = .ok (.goto (-48), 3) := by decide +kernel
theorem dX10_nameAt_109 : decode cX10_nameAt 109 = .ok (.aload_n 0, 1) := by decide +kernel
theorem dX10_nameAt_110 : decode cX10_nameAt 110 = .ok (.getfield 41, 3) := by decide +kernel
theorem dX10_nameAt_113 : decode cX10_nameAt 113 = .ok (.sipush 1408, 3) := by decide +kernel
theorem dX10_nameAt_116 : decode cX10_nameAt 116 = .ok (.if_icmp .lt 5, 3) := by decide +kernel
theorem dX10_nameAt_119 : decode cX10_nameAt 119 = .ok (.iconst 0, 1) := by decide +kernel
theorem dX10_nameAt_120 : decode cX10_nameAt 120 = .ok (.ireturn, 1) := by decide +kernel
theorem dX10_nameAt_121 : decode cX10_nameAt 121 = .ok (.aload_n 0, 1) := by decide +kernel
theorem dX10_nameAt_122 : decode cX10_nameAt 122 = .ok (.getfield 27, 3) := by decide +kernel
theorem dX10_nameAt_125 : decode cX10_nameAt 125 = .ok (.aload_n 0, 1) := by decide +kernel
theorem dX10_nameAt_126 : decode cX10_nameAt 126 = .ok (.getfield 41, 3) := by decide +kernel
theorem dX10_nameAt_129 : decode cX10_nameAt 129 = .ok (.iload_n 1, 1) := by decide +kernel
theorem dX10_nameAt_130 : decode cX10_nameAt 130 = .ok (.iastore, 1) := by decide +kernel
theorem dX10_nameAt_131 : decode cX10_nameAt 131 = .ok (.aload_n 0, 1) := by decide +kernel
theorem dX10_nameAt_132 : decode cX10_nameAt 132 = .ok (.getfield 30, 3) := by decide +kernel
theorem dX10_nameAt_135 : decode cX10_nameAt 135 = .ok (.aload_n 0, 1) := by decide +kernel
theorem dX10_nameAt_136 : decode cX10_nameAt 136 = .ok (.getfield 41, 3) := by decide +kernel
theorem dX10_nameAt_139 : decode cX10_nameAt 139 = .ok (.iload_n 2, 1) := by decide +kernel
theorem dX10_nameAt_140 : decode cX10_nameAt 140 = .ok (.iastore, 1) := by decide +kernel
theorem dX10_nameAt_141 : decode cX10_nameAt 141 = .ok (.aload_n 0, 1) := by decide +kernel
theorem dX10_nameAt_142 : decode cX10_nameAt 142 = .ok (.getfield 24, 3) := by decide +kernel
theorem dX10_nameAt_145 : decode cX10_nameAt 145 = .ok (.aload_n 0, 1) := by decide +kernel
theorem dX10_nameAt_146 : decode cX10_nameAt 146 = .ok (.getfield 41, 3) := by decide +kernel
theorem dX10_nameAt_149 : decode cX10_nameAt 149 = .ok (.aload_n 0, 1) := by decide +kernel
theorem dX10_nameAt_150 : decode cX10_nameAt 150 = .ok (.getfield 21, 3) := by decide +kernel
theorem dX10_nameAt_153 : decode cX10_nameAt 153 = .ok (.iload 4, 2) := by decide +kernel
theorem dX10_nameAt_155 : decode cX10_nameAt 155 = .ok (.iaload, 1) := by decide +kernel
theorem dX10_nameAt_156 : decode cX10_nameAt 156 = .ok (.iastore, 1) := by decide +kernel
theorem dX10_nameAt_157 : decode cX10_nameAt 157 = .ok (.aload_n 0, 1) := by decide +kernel
theorem dX10_nameAt_158 : decode cX10_nameAt 158 = .ok (.getfield 21, 3) := by decide +kernel
theorem dX10_nameAt_161 : decode cX10_nameAt 161 = .ok (.iload 4, 2) := by decide +kernel
theorem dX10_nameAt_163 : decode cX10_nameAt 163 = .ok (.aload_n 0, 1) := by decide +kernel
theorem dX10_nameAt_164 : decode cX10_nameAt 164 = .ok (.getfield 41, 3) := by decide +kernel
theorem dX10_nameAt_167 : decode cX10_nameAt 167 = .ok (.iastore, 1) := by decide +kernel
theorem dX10_nameAt_168 : decode cX10_nameAt 168 = .ok (.aload_n 0, 1) := by decide +kernel
theorem dX10_nameAt_169 : decode cX10_nameAt 169 = .ok (.dup, 1) := by decide +kernel
theorem dX10_nameAt_170 : decode cX10_nameAt 170 = .ok (.getfield 41, 3) := by decide +kernel
theorem dX10_nameAt_173 : decode cX10_nameAt 173 = .ok (.iconst 1, 1) := by decide +kernel
theorem dX10_nameAt_174 : decode cX10_nameAt 174 = .ok (.iadd, 1) := by decide +kernel
theorem dX10_nameAt_175 : decode cX10_nameAt 175 = .ok (.putfield 41, 3) := by decide +kernel
theorem dX10_nameAt_178 : decode cX10_nameAt 178 = .ok (.aload_n 0, 1) := by decide +kernel
theorem dX10_nameAt_179 : decode cX10_nameAt 179 = .ok (.getfield 41, 3) := by decide +kernel
theorem dX10_nameAt_182 : decode cX10_nameAt 182 = .ok (.iconst 1, 1) := by decide +kernel
theorem dX10_nameAt_183 : decode cX10_nameAt 183 = .ok (.isub, 1) := by decide +kernel
theorem dX10_nameAt_184 : decode cX10_nameAt 184 = .ok (.ireturn, 1) := by decide +kernel
theorem dX10_isName_0 : decode cX10_isName 0 = .ok (.aload_n 0, 1) := by decide +kernel
theorem dX10_isName_1 : decode cX10_isName 1 = .ok (.getfield 30, 3) := by decide +kernel
theorem dX10_isName_4 : decode cX10_isName 4 = .ok (.iload_n 1, 1) := by decide +kernel
theorem dX10_isName_5 : decode cX10_isName 5 = .ok (.iaload, 1) := by decide +kernel
theorem dX10_isName_6 : decode cX10_isName 6 = .ok (.iload_n 3, 1) := by decide +kernel
theorem dX10_isName_7 : decode cX10_isName 7 = .ok (.if_icmp .ne 7, 3) := by decide +kernel
theorem dX10_isName_10 : decode cX10_isName 10 = .ok (.iconst 1, 1) := by decide +kernel
theorem dX10_isName_11 : decode cX10_isName 11 = .ok (.goto 4, 3) := by decide +kernel
theorem dX10_isName_14 : decode cX10_isName 14 = .ok (.iconst 0, 1) := by decide +kernel
theorem dX10_isName_15 : decode cX10_isName 15 = .ok (.istore 4, 2) := by decide +kernel
theorem dX10_isName_17 : decode cX10_isName 17 = .ok (.iconst 0, 1) := by decide +kernel
theorem dX10_isName_18 : decode cX10_isName 18 = .ok (.istore 5, 2) := by decide +kernel
theorem dX10_isName_20 : decode cX10_isName 20 = .ok (.iload 5, 2) := by decide +kernel
theorem dX10_isName_22 : decode cX10_isName 22 = .ok (.iload_n 3, 1) := by decide +kernel
theorem dX10_isName_23 : decode cX10_isName 23 = .ok (.if_icmp .ge 51, 3) := by decide +kernel
theorem dX10_isName_26 : decode cX10_isName 26 = .ok (.iload 4, 2) := by decide +kernel
theorem dX10_isName_28 : decode cX10_isName 28 = .ok (.ifCond .eq 46, 3) := by decide +kernel
theorem dX10_isName_31 : decode cX10_isName 31 = .ok (.aload_n 0, 1) := by decide +kernel
theorem dX10_isName_32 : decode cX10_isName 32 = .ok (.getfield 33, 3) := by decide +kernel
theorem dX10_isName_35 : decode cX10_isName 35 = .ok (.aload_n 0, 1) := by decide +kernel
theorem dX10_isName_36 : decode cX10_isName 36 = .ok (.getfield 27, 3) := by decide +kernel
theorem dX10_isName_39 : decode cX10_isName 39 = .ok (.iload_n 1, 1) := by decide +kernel
theorem dX10_isName_40 : decode cX10_isName 40 = .ok (.iaload, 1) := by decide +kernel
theorem dX10_isName_41 : decode cX10_isName 41 = .ok (.iload 5, 2) := by decide +kernel
theorem dX10_isName_43 : decode cX10_isName 43 = .ok (.iadd, 1) := by decide +kernel
theorem dX10_isName_44 : decode cX10_isName 44 = .ok (.invokevirtual 64, 3) := by decide +kernel
theorem dX10_isName_47 : decode cX10_isName 47 = .ok (.aload_n 0, 1) := by decide +kernel
theorem dX10_isName_48 : decode cX10_isName 48 = .ok (.getfield 33, 3) := by decide +kernel
theorem dX10_isName_51 : decode cX10_isName 51 = .ok (.iload_n 2, 1) := by decide +kernel
theorem dX10_isName_52 : decode cX10_isName 52 = .ok (.iload 5, 2) := by decide +kernel
theorem dX10_isName_54 : decode cX10_isName 54 = .ok (.iadd, 1) := by decide +kernel
theorem dX10_isName_55 : decode cX10_isName 55 = .ok (.invokevirtual 64, 3) := by decide +kernel
theorem dX10_isName_58 : decode cX10_isName 58 = .ok (.if_icmp .ne 7, 3) := by decide +kernel
theorem dX10_isName_61 : decode cX10_isName 61 = .ok (.iconst 1, 1) := by decide +kernel
theorem dX10_isName_62 : decode cX10_isName 62 = .ok (.goto 4, 3) := by decide +kernel
theorem dX10_isName_65 : decode cX10_isName 65 = .ok (.iconst 0, 1) := by decide +kernel
theorem dX10_isName_66 : decode cX10_isName 66 = .ok (.istore 4, 2) := by decide +kernel
theorem dX10_isName_68 : decode cX10_isName 68 = .ok (.iinc 5 1, 3) := by decide +kernel
theorem dX10_isName_71 : decode cX10_isName 71 = .ok (.goto (-51), 3) := by decide +kernel
theorem dX10_isName_74 : decode cX10_isName 74 = .ok (.iload 4, 2) := by decide +kernel
theorem dX10_isName_76 : decode cX10_isName 76 = .ok (.ireturn, 1) := by decide +kernel
theorem dX10_behindNumber_0 : decode cX10_behindNumber 0 = .ok (.aload_n 0, 1) := by decide +kernel
theorem dX10_behindNumber_1 : decode cX10_behindNumber 1 = .ok (.iload_n 1, 1) := by decide +kernel
theorem dX10_behindNumber_2 : decode cX10_behindNumber 2 = .ok (.invokevirtual 90, 3) := by decide +kernel
theorem dX10_behindNumber_5 : decode cX10_behindNumber 5 = .ok (.istore_n 2, 1) := by decide +kernel
theorem dX10_behindNumber_6 : decode cX10_behindNumber 6 = .ok (.aload_n 0, 1) := by decide +kernel
theorem dX10_behindNumber_7 : decode cX10_behindNumber 7 = .ok (.getfield 33, 3) := by decide +kernel
theorem dX10_behindNumber_10 : decode cX10_behindNumber 10 = .ok (.iload_n 1, 1) := by decide +kernel
theorem dX10_behindNumber_11 : decode cX10_behindNumber 11 = .ok (.invokevirtual 64, 3) := by decide +kernel
theorem dX10_behindNumber_14 : decode cX10_behindNumber 14 = .ok (.bipush 48, 2) := by decide +kernel
theorem dX10_behindNumber_16 : decode cX10_behindNumber 16 = .ok (.if_icmp .ne 22, 3) := by decide +kernel
theorem dX10_behindNumber_19 : decode cX10_behindNumber 19 = .ok (.aload_n 0, 1) := by decide +kernel
theorem dX10_behindNumber_20 : decode cX10_behindNumber 20 = .ok (.getfield 33, 3) := by decide +kernel
theorem dX10_behindNumber_23 : decode cX10_behindNumber 23 = .ok (.iload_n 1, 1) := by decide +kernel
theorem dX10_behindNumber_24 : decode cX10_behindNumber 24 = .ok (.iconst 1, 1) := by decide +kernel
theorem dX10_behindNumber_25 : decode cX10_behindNumber 25 = .ok (.iadd, 1) := by decide +kernel
theorem dX10_behindNumber_26 : decode cX10_behindNumber 26 = .ok (.invokevirtual 64, 3) := by decide +kernel
theorem dX10_behindNumber_29 : decode cX10_behindNumber 29 = .ok (.bipush 120, 2) := by decide +kernel
theorem dX10_behindNumber_31 : decode cX10_behindNumber 31 = .ok (.if_icmp .ne 7, 3) := by decide +kernel
theorem dX10_behindNumber_34 : decode cX10_behindNumber 34 = .ok (.iconst 1, 1) := by decide +kernel
theorem dX10_behindNumber_35 : decode cX10_behindNumber 35 = .ok (.goto 4, 3) := by decide +kernel
theorem dX10_behindNumber_38 : decode cX10_behindNumber 38 = .ok (.iconst 0, 1) := by decide +kernel
theorem dX10_behindNumber_39 : decode cX10_behindNumber 39 = .ok (.istore_n 3, 1) := by decide +kernel
theorem dX10_behindNumber_40 : decode cX10_behindNumber 40 = .ok (.iload_n 3, 1) := by decide +kernel
theorem dX10_behindNumber_41 : decode cX10_behindNumber 41 = .ok (.ifCond .eq 9, 3) := by decide +kernel
theorem dX10_behindNumber_44 : decode cX10_behindNumber 44 = .ok (.iload_n 1, 1) := by decide +kernel
theorem dX10_behindNumber_45 : decode cX10_behindNumber 45 = .ok (.iconst 2, 1) := by decide +kernel
theorem dX10_behindNumber_46 : decode cX10_behindNumber 46 = .ok (.iadd, 1) := by decide +kernel
theorem dX10_behindNumber_47 : decode cX10_behindNumber 47 = .ok (.goto 4, 3) := by decide +kernel
theorem dX10_behindNumber_50 : decode cX10_behindNumber 50 = .ok (.iload_n 1, 1) := by decide +kernel
theorem dX10_behindNumber_51 : decode cX10_behindNumber 51 = .ok (.istore 4, 2) := by decide +kernel
theorem dX10_behindNumber_53 : decode cX10_behindNumber 53 = .ok (.iload_n 3, 1) := by decide +kernel
theorem dX10_behindNumber_54 : decode cX10_behindNumber 54 = .ok (.ifCond .eq 8, 3) := by decide +kernel
theorem dX10_behindNumber_57 : decode cX10_behindNumber 57 = .ok (.bipush 16, 2) := by decide +kernel
theorem dX10_behindNumber_59 : decode cX10_behindNumber 59 = .ok (.goto 5, 3) := by decide +kernel
theorem dX10_behindNumber_62 : decode cX10_behindNumber 62 = .ok (.bipush 10, 2) := by decide +kernel
theorem dX10_behindNumber_64 : decode cX10_behindNumber 64 = .ok (.istore 5, 2) := by decide +kernel
theorem dX10_behindNumber_66 : decode cX10_behindNumber 66 = .ok (.iload_n 2, 1) := by decide +kernel
theorem dX10_behindNumber_67 : decode cX10_behindNumber 67 = .ok (.iload 4, 2) := by decide +kernel
theorem dX10_behindNumber_69 : decode cX10_behindNumber 69 = .ok (.isub, 1) := by decide +kernel
theorem dX10_behindNumber_70 : decode cX10_behindNumber 70 = .ok (.istore 6, 2) := by decide +kernel
theorem dX10_behindNumber_72 : decode cX10_behindNumber 72 = .ok (.iload 6, 2) := by decide +kernel
theorem dX10_behindNumber_74 : decode cX10_behindNumber 74 = .ok (.iconst 1, 1) := by decide +kernel
theorem dX10_behindNumber_75 : decode cX10_behindNumber 75 = .ok (.if_icmp .lt 19, 3) := by decide +kernel
theorem dX10_behindNumber_78 : decode cX10_behindNumber 78 = .ok (.iload 6, 2) := by decide +kernel
theorem dX10_behindNumber_80 : decode cX10_behindNumber 80 = .ok (.iload_n 3, 1) := by decide +kernel
theorem dX10_behindNumber_81 : decode cX10_behindNumber 81 = .ok (.ifCond .eq 8, 3) := by decide +kernel
theorem dX10_behindNumber_84 : decode cX10_behindNumber 84 = .ok (.bipush 8, 2) := by decide +kernel
theorem dX10_behindNumber_86 : decode cX10_behindNumber 86 = .ok (.goto 5, 3) := by decide +kernel
theorem dX10_behindNumber_89 : decode cX10_behindNumber 89 = .ok (.bipush 10, 2) := by decide +kernel
theorem dX10_behindNumber_91 : decode cX10_behindNumber 91 = .ok (.if_icmp .le 5, 3) := by decide +kernel
theorem dX10_behindNumber_94 : decode cX10_behindNumber 94 = .ok (.iconst (-1), 1) := by decide +kernel
theorem dX10_behindNumber_95 : decode cX10_behindNumber 95 = .ok (.ireturn, 1) := by decide +kernel
theorem dX10_behindNumber_96 : decode cX10_behindNumber 96 = .ok (.lconst 0, 1) := by decide +kernel
theorem dX10_behindNumber_97 : decode cX10_behindNumber 97 = .ok (.lstore 7, 2) := by decide +kernel
theorem dX10_behindNumber_99 : decode cX10_behindNumber 99 = .ok (.iload 4, 2) := by decide +kernel
theorem dX10_behindNumber_101 : decode cX10_behindNumber 101 = .ok (.istore 9, 2) := by decide +kernel
theorem dX10_behindNumber_103 : decode cX10_behindNumber 103 = .ok (.iload 9, 2) := by decide +kernel
theorem dX10_behindNumber_105 : decode cX10_behindNumber 105 = .ok (.iload_n 2, 1) := by decide +kernel
theorem dX10_behindNumber_106 : decode cX10_behindNumber 106 = .ok (.if_icmp .ge 44, 3) := by decide +kernel
theorem dX10_behindNumber_109 : decode cX10_behindNumber 109 = .ok (.aload_n 0, 1) := by decide +kernel
theorem dX10_behindNumber_110 : decode cX10_behindNumber 110 = .ok (.getfield 33, 3) := by decide +kernel
theorem dX10_behindNumber_113 : decode cX10_behindNumber 113 = .ok (.iload 9, 2) := by decide +kernel
theorem dX10_behindNumber_115 : decode cX10_behindNumber 115 = .ok (.invokevirtual 64, 3) := by decide +kernel
theorem dX10_behindNumber_118 : decode cX10_behindNumber 118 = .ok (.invokestatic 111, 3) := by decide +kernel
theorem dX10_behindNumber_121 : decode cX10_behindNumber 121 = .ok (.istore 10, 2) := by decide +kernel
theorem dX10_behindNumber_123 : decode cX10_behindNumber 123 = .ok (.iload 10, 2) := by decide +kernel
theorem dX10_behindNumber_125 : decode cX10_behindNumber 125 = .ok (.iload 5, 2) := by decide +kernel
theorem dX10_behindNumber_127 : decode cX10_behindNumber 127 = .ok (.if_icmp .lt 5, 3) := by decide +kernel
theorem dX10_behindNumber_130 : decode cX10_behindNumber 130 = .ok (.iconst (-1), 1) := by decide +kernel
theorem dX10_behindNumber_131 : decode cX10_behindNumber 131 = .ok (.ireturn, 1) := by decide +kernel
theorem dX10_behindNumber_132 : decode cX10_behindNumber 132 = .ok (.lload 7, 2) := by decide +kernel
theorem dX10_behindNumber_134 : decode cX10_behindNumber 134 = .ok (.iload 5, 2) := by decide +kernel
theorem dX10_behindNumber_136 : decode cX10_behindNumber 136 = .ok (.i2l, 1) := by decide +kernel
theorem dX10_behindNumber_137 : decode cX10_behindNumber 137 = .ok (.lmul, 1) := by decide +kernel
theorem dX10_behindNumber_138 : decode cX10_behindNumber 138 = .ok (.iload 10, 2) := by decide +kernel
theorem dX10_behindNumber_140 : decode cX10_behindNumber 140 = .ok (.i2l, 1) := by decide +kernel
theorem dX10_behindNumber_141 : decode cX10_behindNumber 141 = .ok (.ladd, 1) := by decide +kernel
theorem dX10_behindNumber_142 : decode cX10_behindNumber 142 = .ok (.lstore 7, 2) := by decide +kernel
theorem dX10_behindNumber_144 : decode cX10_behindNumber 144 = .ok (.iinc 9 1, 3) := by decide +kernel
theorem dX10_behindNumber_147 : decode cX10_behindNumber 147 = .ok (.goto (-44), 3) := by decide +kernel
theorem dX10_behindNumber_150 : decode cX10_behindNumber 150 = .ok (.lload 7, 2) := by decide +kernel
theorem dX10_behindNumber_152 : decode cX10_behindNumber 152 = .ok (.ldc2_w 114, 3) := by decide +kernel
theorem dX10_behindNumber_155 : decode cX10_behindNumber 155 = .ok (.lcmp, 1) := by decide +kernel
theorem dX10_behindNumber_156 : decode cX10_behindNumber 156 = .ok (.ifCond .le 5, 3) := by decide +kernel
theorem dX10_behindNumber_159 : decode cX10_behindNumber 159 = .ok (.iconst (-1), 1) := by decide +kernel
theorem dX10_behindNumber_160 : decode cX10_behindNumber 160 = .ok (.ireturn, 1) := by decide +kernel
theorem dX10_behindNumber_161 : decode cX10_behindNumber 161 = .ok (.aload_n 0, 1) := by decide +kernel
theorem dX10_behindNumber_162 : decode cX10_behindNumber 162 = .ok (.iconst 3, 1) := by decide +kernel
theorem dX10_behindNumber_163 : decode cX10_behindNumber 163 = .ok (.lload 7, 2) := by decide +kernel
theorem dX10_behindNumber_165 : decode cX10_behindNumber 165 = .ok (.l2i, 1) := by decide +kernel
theorem dX10_behindNumber_166 : decode cX10_behindNumber 166 = .ok (.iload_n 1, 1) := by decide +kernel
theorem dX10_behindNumber_167 : decode cX10_behindNumber 167 = .ok (.invokevirtual 60, 3) := by decide +kernel
theorem dX10_behindNumber_170 : decode cX10_behindNumber 170 = .ok (.iload_n 2, 1) := by decide +kernel
theorem dX10_behindNumber_171 : decode cX10_behindNumber 171 = .ok (.ireturn, 1) := by decide +kernel
theorem dX10_digitOf_0 : decode cX10_digitOf 0 = .ok (.iload_n 0, 1) := by decide +kernel
theorem dX10_digitOf_1 : decode cX10_digitOf 1 = .ok (.invokestatic 73, 3) := by decide +kernel
theorem dX10_digitOf_4 : decode cX10_digitOf 4 = .ok (.ifCond .eq 8, 3) := by decide +kernel
theorem dX10_digitOf_7 : decode cX10_digitOf 7 = .ok (.iload_n 0, 1) := by decide +kernel
theorem dX10_digitOf_8 : decode cX10_digitOf 8 = .ok (.bipush 48, 2) := by decide +kernel
theorem dX10_digitOf_10 : decode cX10_digitOf 10 = .ok (.isub, 1) := by decide +kernel
theorem dX10_digitOf_11 : decode cX10_digitOf 11 = .ok (.ireturn, 1) := by decide +kernel
theorem dX10_digitOf_12 : decode cX10_digitOf 12 = .ok (.iload_n 0, 1) := by decide +kernel
theorem dX10_digitOf_13 : decode cX10_digitOf 13 = .ok (.bipush 97, 2) := by decide +kernel
theorem dX10_digitOf_15 : decode cX10_digitOf 15 = .ok (.if_icmp .lt 17, 3) := by decide +kernel
theorem dX10_digitOf_18 : decode cX10_digitOf 18 = .ok (.iload_n 0, 1) := by decide +kernel
theorem dX10_digitOf_19 : decode cX10_digitOf 19 = .ok (.bipush 102, 2) := by decide +kernel
theorem dX10_digitOf_21 : decode cX10_digitOf 21 = .ok (.if_icmp .gt 11, 3) := by decide +kernel
theorem dX10_digitOf_24 : decode cX10_digitOf 24 = .ok (.iload_n 0, 1) := by decide +kernel
theorem dX10_digitOf_25 : decode cX10_digitOf 25 = .ok (.bipush 97, 2) := by decide +kernel
theorem dX10_digitOf_27 : decode cX10_digitOf 27 = .ok (.isub, 1) := by decide +kernel
theorem dX10_digitOf_28 : decode cX10_digitOf 28 = .ok (.bipush 10, 2) := by decide +kernel
theorem dX10_digitOf_30 : decode cX10_digitOf 30 = .ok (.iadd, 1) := by decide +kernel
theorem dX10_digitOf_31 : decode cX10_digitOf 31 = .ok (.ireturn, 1) := by decide +kernel
theorem dX10_digitOf_32 : decode cX10_digitOf 32 = .ok (.iload_n 0, 1) := by decide +kernel
theorem dX10_digitOf_33 : decode cX10_digitOf 33 = .ok (.bipush 65, 2) := by decide +kernel
theorem dX10_digitOf_35 : decode cX10_digitOf 35 = .ok (.if_icmp .lt 19, 3) := by decide +kernel
theorem dX10_digitOf_38 : decode cX10_digitOf 38 = .ok (.iload_n 0, 1) := by decide +kernel
theorem dX10_digitOf_39 : decode cX10_digitOf 39 = .ok (.bipush 70, 2) := by decide +kernel
theorem dX10_digitOf_41 : decode cX10_digitOf 41 = .ok (.if_icmp .gt 13, 3) := by decide +kernel
theorem dX10_digitOf_44 : decode cX10_digitOf 44 = .ok (.iload_n 0, 1) := by decide +kernel
theorem dX10_digitOf_45 : decode cX10_digitOf 45 = .ok (.bipush 65, 2) := by decide +kernel
theorem dX10_digitOf_47 : decode cX10_digitOf 47 = .ok (.isub, 1) := by decide +kernel
theorem dX10_digitOf_48 : decode cX10_digitOf 48 = .ok (.bipush 10, 2) := by decide +kernel
theorem dX10_digitOf_50 : decode cX10_digitOf 50 = .ok (.iadd, 1) := by decide +kernel
theorem dX10_digitOf_51 : decode cX10_digitOf 51 = .ok (.goto 5, 3) := by decide +kernel
theorem dX10_digitOf_54 : decode cX10_digitOf 54 = .ok (.bipush 16, 2) := by decide +kernel
theorem dX10_digitOf_56 : decode cX10_digitOf 56 = .ok (.ireturn, 1) := by decide +kernel
theorem dX10_behindSign_0 : decode cX10_behindSign 0 = .ok (.ldc 116, 2) := by decide +kernel
theorem dX10_behindSign_2 : decode cX10_behindSign 2 = .ok (.iload_n 2, 1) := by decide +kernel
theorem dX10_behindSign_3 : decode cX10_behindSign 3 = .ok (.i2c, 1) := by decide +kernel
theorem dX10_behindSign_4 : decode cX10_behindSign 4 = .ok (.invokevirtual 118, 3) := by decide +kernel
theorem dX10_behindSign_7 : decode cX10_behindSign 7 = .ok (.istore_n 3, 1) := by decide +kernel
theorem dX10_behindSign_8 : decode cX10_behindSign 8 = .ok (.iload_n 1, 1) := by decide +kernel
theorem dX10_behindSign_9 : decode cX10_behindSign 9 = .ok (.iconst 1, 1) := by decide +kernel
theorem dX10_behindSign_10 : decode cX10_behindSign 10 = .ok (.iadd, 1) := by decide +kernel
theorem dX10_behindSign_11 : decode cX10_behindSign 11 = .ok (.istore 4, 2) := by decide +kernel
theorem dX10_behindSign_13 : decode cX10_behindSign 13 = .ok (.aload_n 0, 1) := by decide +kernel
theorem dX10_behindSign_14 : decode cX10_behindSign 14 = .ok (.getfield 33, 3) := by decide +kernel
theorem dX10_behindSign_17 : decode cX10_behindSign 17 = .ok (.iload 4, 2) := by decide +kernel
theorem dX10_behindSign_19 : decode cX10_behindSign 19 = .ok (.invokevirtual 64, 3) := by decide +kernel
theorem dX10_behindSign_22 : decode cX10_behindSign 22 = .ok (.istore 5, 2) := by decide +kernel
theorem dX10_behindSign_24 : decode cX10_behindSign 24 = .ok (.iload_n 3, 1) := by decide +kernel
theorem dX10_behindSign_25 : decode cX10_behindSign 25 = .ok (.ifCond .lt 24, 3) := by decide +kernel
theorem dX10_behindSign_28 : decode cX10_behindSign 28 = .ok (.iload_n 3, 1) := by decide +kernel
theorem dX10_behindSign_29 : decode cX10_behindSign 29 = .ok (.getstatic 121, 3) := by decide +kernel
theorem dX10_behindSign_32 : decode cX10_behindSign 32 = .ok (.arraylength, 1) := by decide +kernel
theorem dX10_behindSign_33 : decode cX10_behindSign 33 = .ok (.if_icmp .ge 16, 3) := by decide +kernel
theorem dX10_behindSign_36 : decode cX10_behindSign 36 = .ok (.iload_n 2, 1) := by decide +kernel
theorem dX10_behindSign_37 : decode cX10_behindSign 37 = .ok (.bipush 47, 2) := by decide +kernel
theorem dX10_behindSign_39 : decode cX10_behindSign 39 = .ok (.if_icmp .ne 12, 3) := by decide +kernel
theorem dX10_behindSign_42 : decode cX10_behindSign 42 = .ok (.iload 5, 2) := by decide +kernel
theorem dX10_behindSign_44 : decode cX10_behindSign 44 = .ok (.bipush 42, 2) := by decide +kernel
theorem dX10_behindSign_46 : decode cX10_behindSign 46 = .ok (.if_icmp .ne 5, 3) := by decide +kernel
theorem dX10_behindSign_49 : decode cX10_behindSign 49 = .ok (.iconst (-1), 1) := by decide +kernel
theorem dX10_behindSign_50 : decode cX10_behindSign 50 = .ok (.ireturn, 1) := by decide +kernel
theorem dX10_behindSign_51 : decode cX10_behindSign 51 = .ok (.getstatic 121, 3) := by decide +kernel
theorem dX10_behindSign_54 : decode cX10_behindSign 54 = .ok (.iload_n 3, 1) := by decide +kernel
theorem dX10_behindSign_55 : decode cX10_behindSign 55 = .ok (.iaload, 1) := by decide +kernel
theorem dX10_behindSign_56 : decode cX10_behindSign 56 = .ok (.istore 6, 2) := by decide +kernel
theorem dX10_behindSign_58 : decode cX10_behindSign 58 = .ok (.iload 5, 2) := by decide +kernel
theorem dX10_behindSign_60 : decode cX10_behindSign 60 = .ok (.iload_n 2, 1) := by decide +kernel
theorem dX10_behindSign_61 : decode cX10_behindSign 61 = .ok (.if_icmp .ne 92, 3) := by decide +kernel
theorem dX10_behindSign_64 : decode cX10_behindSign 64 = .ok (.getstatic 124, 3) := by decide +kernel
theorem dX10_behindSign_67 : decode cX10_behindSign 67 = .ok (.iload_n 3, 1) := by decide +kernel
theorem dX10_behindSign_68 : decode cX10_behindSign 68 = .ok (.iaload, 1) := by decide +kernel
theorem dX10_behindSign_69 : decode cX10_behindSign 69 = .ok (.ifCond .eq 84, 3) := by decide +kernel
theorem dX10_behindSign_72 : decode cX10_behindSign 72 = .ok (.getstatic 124, 3) := by decide +kernel
theorem dX10_behindSign_75 : decode cX10_behindSign 75 = .ok (.iload_n 3, 1) := by decide +kernel
theorem dX10_behindSign_76 : decode cX10_behindSign 76 = .ok (.iaload, 1) := by decide +kernel
theorem dX10_behindSign_77 : decode cX10_behindSign 77 = .ok (.istore 6, 2) := by decide +kernel
theorem dX10_behindSign_79 : decode cX10_behindSign 79 = .ok (.iinc 4 1, 3) := by decide +kernel
theorem dX10_behindSign_82 : decode cX10_behindSign 82 = .ok (.iload 6, 2) := by decide +kernel
theorem dX10_behindSign_84 : decode cX10_behindSign 84 = .ok (.bipush 55, 2) := by decide +kernel
theorem dX10_behindSign_86 : decode cX10_behindSign 86 = .ok (.if_icmp .ne 23, 3) := by decide +kernel
theorem dX10_behindSign_89 : decode cX10_behindSign 89 = .ok (.aload_n 0, 1) := by decide +kernel
theorem dX10_behindSign_90 : decode cX10_behindSign 90 = .ok (.getfield 33, 3) := by decide +kernel
theorem dX10_behindSign_93 : decode cX10_behindSign 93 = .ok (.iload 4, 2) := by decide +kernel
theorem dX10_behindSign_95 : decode cX10_behindSign 95 = .ok (.invokevirtual 64, 3) := by decide +kernel
theorem dX10_behindSign_98 : decode cX10_behindSign 98 = .ok (.iload_n 2, 1) := by decide +kernel
theorem dX10_behindSign_99 : decode cX10_behindSign 99 = .ok (.if_icmp .ne 10, 3) := by decide +kernel
theorem dX10_behindSign_102 : decode cX10_behindSign 102 = .ok (.bipush 56, 2) := by decide +kernel
theorem dX10_behindSign_104 : decode cX10_behindSign 104 = .ok (.istore 6, 2) := by decide +kernel
theorem dX10_behindSign_106 : decode cX10_behindSign 106 = .ok (.iinc 4 1, 3) := by decide +kernel
theorem dX10_behindSign_109 : decode cX10_behindSign 109 = .ok (.iload 6, 2) := by decide +kernel
theorem dX10_behindSign_111 : decode cX10_behindSign 111 = .ok (.bipush 54, 2) := by decide +kernel
theorem dX10_behindSign_113 : decode cX10_behindSign 113 = .ok (.if_icmp .lt 65, 3) := by decide +kernel
theorem dX10_behindSign_116 : decode cX10_behindSign 116 = .ok (.iload 6, 2) := by decide +kernel
theorem dX10_behindSign_118 : decode cX10_behindSign 118 = .ok (.bipush 56, 2) := by decide +kernel
theorem dX10_behindSign_120 : decode cX10_behindSign 120 = .ok (.if_icmp .gt 58, 3) := by decide +kernel
theorem dX10_behindSign_123 : decode cX10_behindSign 123 = .ok (.aload_n 0, 1) := by decide +kernel
theorem dX10_behindSign_124 : decode cX10_behindSign 124 = .ok (.getfield 33, 3) := by decide +kernel
theorem dX10_behindSign_127 : decode cX10_behindSign 127 = .ok (.iload 4, 2) := by decide +kernel
theorem dX10_behindSign_129 : decode cX10_behindSign 129 = .ok (.invokevirtual 64, 3) := by decide +kernel
theorem dX10_behindSign_132 : decode cX10_behindSign 132 = .ok (.bipush 61, 2) := by decide +kernel
theorem dX10_behindSign_134 : decode cX10_behindSign 134 = .ok (.if_icmp .ne 44, 3) := by decide +kernel
theorem dX10_behindSign_137 : decode cX10_behindSign 137 = .ok (.iload 6, 2) := by decide +kernel
theorem dX10_behindSign_139 : decode cX10_behindSign 139 = .ok (.bipush 54, 2) := by decide +kernel
theorem dX10_behindSign_141 : decode cX10_behindSign 141 = .ok (.isub, 1) := by decide +kernel
theorem dX10_behindSign_142 : decode cX10_behindSign 142 = .ok (.bipush 38, 2) := by decide +kernel
theorem dX10_behindSign_144 : decode cX10_behindSign 144 = .ok (.iadd, 1) := by decide +kernel
theorem dX10_behindSign_145 : decode cX10_behindSign 145 = .ok (.istore 6, 2) := by decide +kernel
theorem dX10_behindSign_147 : decode cX10_behindSign 147 = .ok (.iinc 4 1, 3) := by decide +kernel
theorem dX10_behindSign_150 : decode cX10_behindSign 150 = .ok (.goto 28, 3) := by decide +kernel
theorem dX10_behindSign_153 : decode cX10_behindSign 153 = .ok (.iload 5, 2) := by decide +kernel
theorem dX10_behindSign_155 : decode cX10_behindSign 155 = .ok (.bipush 61, 2) := by decide +kernel
theorem dX10_behindSign_157 : decode cX10_behindSign 157 = .ok (.if_icmp .ne 21, 3) := by decide +kernel
theorem dX10_behindSign_160 : decode cX10_behindSign 160 = .ok (.getstatic 127, 3) := by decide +kernel
theorem dX10_behindSign_163 : decode cX10_behindSign 163 = .ok (.iload_n 3, 1) := by decide +kernel
theorem dX10_behindSign_164 : decode cX10_behindSign 164 = .ok (.iaload, 1) := by decide +kernel
theorem dX10_behindSign_165 : decode cX10_behindSign 165 = .ok (.ifCond .eq 13, 3) := by decide +kernel
theorem dX10_behindSign_168 : decode cX10_behindSign 168 = .ok (.getstatic 127, 3) := by decide +kernel
theorem dX10_behindSign_171 : decode cX10_behindSign 171 = .ok (.iload_n 3, 1) := by decide +kernel
theorem dX10_behindSign_172 : decode cX10_behindSign 172 = .ok (.iaload, 1) := by decide +kernel
theorem dX10_behindSign_173 : decode cX10_behindSign 173 = .ok (.istore 6, 2) := by decide +kernel
theorem dX10_behindSign_175 : decode cX10_behindSign 175 = .ok (.iinc 4 1, 3) := by decide +kernel
theorem dX10_behindSign_178 : decode cX10_behindSign 178 = .ok (.aload_n 0, 1) := by decide +kernel
theorem dX10_behindSign_179 : decode cX10_behindSign 179 = .ok (.iload 6, 2) := by decide +kernel
theorem dX10_behindSign_181 : decode cX10_behindSign 181 = .ok (.iconst 0, 1) := by decide +kernel
theorem dX10_behindSign_182 : decode cX10_behindSign 182 = .ok (.iload_n 1, 1) := by decide +kernel
theorem dX10_behindSign_183 : decode cX10_behindSign 183 = .ok (.invokevirtual 60, 3) := by decide +kernel
theorem dX10_behindSign_186 : decode cX10_behindSign 186 = .ok (.iload 4, 2) := by decide +kernel
theorem dX10_behindSign_188 : decode cX10_behindSign 188 = .ok (.ireturn, 1) := by decide +kernel
theorem dX11_init_0 : decode cX11_init 0 = .ok (.aload_n 0, 1) := by decide +kernel
theorem dX11_init_1 : decode cX11_init 1 = .ok (.invokespecial 3, 3) := by decide +kernel
theorem dX11_init_4 : decode cX11_init 4 = .ok (.new 9, 3) := by decide +kernel
theorem dX11_init_7 : decode cX11_init 7 = .ok (.dup, 1) := by decide +kernel
theorem dX11_init_8 : decode cX11_init 8 = .ok (.invokespecial 11, 3) := by decide +kernel
theorem dX11_init_11 : decode cX11_init 11 = .ok (.astore_n 1, 1) := by decide +kernel
theorem dX11_init_12 : decode cX11_init 12 = .ok (.aload_n 0, 1) := by decide +kernel
theorem dX11_init_13 : decode cX11_init 13 = .ok (.new 12, 3) := by decide +kernel
theorem dX11_init_16 : decode cX11_init 16 = .ok (.dup, 1) := by decide +kernel
theorem dX11_init_17 : decode cX11_init 17 = .ok (.invokespecial 14, 3) := by decide +kernel
theorem dX11_init_20 : decode cX11_init 20 = .ok (.putfield 15, 3) := by decide +kernel
theorem dX11_init_23 : decode cX11_init 23 = .ok (.aload_n 0, 1) := by decide +kernel
theorem dX11_init_24 : decode cX11_init 24 = .ok (.new 19, 3) := by decide +kernel
theorem dX11_init_27 : decode cX11_init 27 = .ok (.dup, 1) := by decide +kernel
theorem dX11_init_28 : decode cX11_init 28 = .ok (.aload_n 0, 1) := by decide +kernel
theorem dX11_init_29 : decode cX11_init 29 = .ok (.getfield 15, 3) := by decide +kernel
theorem dX11_init_32 : decode cX11_init 32 = .ok (.invokespecial 21, 3) := by decide +kernel
theorem dX11_init_35 : decode cX11_init 35 = .ok (.putfield 24, 3) := by decide +kernel
theorem dX11_init_38 : decode cX11_init 38 = .ok (.aload_n 0, 1) := by decide +kernel
theorem dX11_init_39 : decode cX11_init 39 = .ok (.new 28, 3) := by decide +kernel
theorem dX11_init_42 : decode cX11_init 42 = .ok (.dup, 1) := by decide +kernel
theorem dX11_init_43 : decode cX11_init 43 = .ok (.invokespecial 30, 3) := by decide +kernel
theorem dX11_init_46 : decode cX11_init 46 = .ok (.putfield 31, 3) := by decide +kernel
theorem dX11_init_49 : decode cX11_init 49 = .ok (.aload_n 0, 1) := by decide +kernel
theorem dX11_init_50 : decode cX11_init 50 = .ok (.new 35, 3) := by decide +kernel
theorem dX11_init_53 : decode cX11_init 53 = .ok (.dup, 1) := by decide +kernel
theorem dX11_init_54 : decode cX11_init 54 = .ok (.invokespecial 37, 3) := by decide +kernel
theorem dX11_init_57 : decode cX11_init 57 = .ok (.putfield 38, 3) := by decide +kernel
theorem dX11_init_60 : decode cX11_init 60 = .ok (.aload_n 0, 1) := by decide +kernel
theorem dX11_init_61 : decode cX11_init 61 = .ok (.new 42, 3) := by decide +kernel
theorem dX11_init_64 : decode cX11_init 64 = .ok (.dup, 1) := by decide +kernel
theorem dX11_init_65 : decode cX11_init 65 = .ok (.aload_n 1, 1) := by decide +kernel
theorem dX11_init_66 : decode cX11_init 66 = .ok (.aload_n 0, 1) := by decide +kernel
theorem dX11_init_67 : decode cX11_init 67 = .ok (.getfield 31, 3) := by decide +kernel
theorem dX11_init_70 : decode cX11_init 70 = .ok (.aload_n 0, 1) := by decide +kernel
theorem dX11_init_71 : decode cX11_init 71 = .ok (.getfield 38, 3) := by decide +kernel
theorem dX11_init_74 : decode cX11_init 74 = .ok (.invokespecial 44, 3) := by decide +kernel
theorem dX11_init_77 : decode cX11_init 77 = .ok (.putfield 47, 3) := by decide +kernel
theorem dX11_init_80 : decode cX11_init 80 = .ok (.new 51, 3) := by decide +kernel
theorem dX11_init_83 : decode cX11_init 83 = .ok (.dup, 1) := by decide +kernel
theorem dX11_init_84 : decode cX11_init 84 = .ok (.aload_n 0, 1) := by decide +kernel
theorem dX11_init_85 : decode cX11_init 85 = .ok (.getfield 24, 3) := by decide +kernel
theorem dX11_init_88 : decode cX11_init 88 = .ok (.invokespecial 53, 3) := by decide +kernel
theorem dX11_init_91 : decode cX11_init 91 = .ok (.astore_n 2, 1) := by decide +kernel
theorem dX11_init_92 : decode cX11_init 92 = .ok (.new 56, 3) := by decide +kernel
theorem dX11_init_95 : decode cX11_init 95 = .ok (.dup, 1) := by decide +kernel
theorem dX11_init_96 : decode cX11_init 96 = .ok (.aload_n 0, 1) := by decide +kernel
theorem dX11_init_97 : decode cX11_init 97 = .ok (.getfield 31, 3) := by decide +kernel
theorem dX11_init_100 : decode cX11_init 100 = .ok (.invokespecial 58, 3) := by decide +kernel
theorem dX11_init_103 : decode cX11_init 103 = .ok (.astore_n 3, 1) := by decide +kernel
theorem dX11_init_104 : decode cX11_init 104 = .ok (.new 61, 3) := by decide +kernel
theorem dX11_init_107 : decode cX11_init 107 = .ok (.dup, 1) := by decide +kernel
theorem dX11_init_108 : decode cX11_init 108 = .ok (.aload_n 2, 1) := by decide +kernel
theorem dX11_init_109 : decode cX11_init 109 = .ok (.aload_n 3, 1) := by decide +kernel
theorem dX11_init_110 : decode cX11_init 110 = .ok (.aload_n 1, 1) := by decide +kernel
theorem dX11_init_111 : decode cX11_init 111 = .ok (.aload_n 0, 1) := by decide +kernel
theorem dX11_init_112 : decode cX11_init 112 = .ok (.getfield 31, 3) := by decide +kernel
theorem dX11_init_115 : decode cX11_init 115 = .ok (.aload_n 0, 1) := by decide +kernel
theorem dX11_init_116 : decode cX11_init 116 = .ok (.getfield 47, 3) := by decide +kernel
theorem dX11_init_119 : decode cX11_init 119 = .ok (.invokespecial 63, 3) := by decide +kernel
theorem dX11_init_122 : decode cX11_init 122 = .ok (.astore 4, 2) := by decide +kernel
theorem dX11_init_124 : decode cX11_init 124 = .ok (.aload_n 0, 1) := by decide +kernel
theorem dX11_init_125 : decode cX11_init 125 = .ok (.new 66, 3) := by decide +kernel
theorem dX11_init_128 : decode cX11_init 128 = .ok (.dup, 1) := by decide +kernel
theorem dX11_init_129 : decode cX11_init 129 = .ok (.aload_n 2, 1) := by decide +kernel
theorem dX11_init_130 : decode cX11_init 130 = .ok (.aload_n 3, 1) := by decide +kernel
theorem dX11_init_131 : decode cX11_init 131 = .ok (.aload_n 1, 1) := by decide +kernel
theorem dX11_init_132 : decode cX11_init 132 = .ok (.aload_n 0, 1) := by decide +kernel
theorem dX11_init_133 : decode cX11_init 133 = .ok (.getfield 31, 3) := by decide +kernel
theorem dX11_init_136 : decode cX11_init 136 = .ok (.aload 4, 2) := by decide +kernel
theorem dX11_init_138 : decode cX11_init 138 = .ok (.invokespecial 68, 3) := by decide +kernel
theorem dX11_init_141 : decode cX11_init 141 = .ok (.putfield 71, 3) := by decide +kernel
theorem dX11_init_144 : decode cX11_init 144 = .ok (.aload_n 0, 1) := by decide +kernel
theorem dX11_init_145 : decode cX11_init 145 = .ok (.new 75, 3) := by decide +kernel
theorem dX11_init_148 : decode cX11_init 148 = .ok (.dup, 1) := by decide +kernel
theorem dX11_init_149 : decode cX11_init 149 = .ok (.invokespecial 77, 3) := by decide +kernel
theorem dX11_init_152 : decode cX11_init 152 = .ok (.putfield 78, 3) := by decide +kernel
theorem dX11_init_155 : decode cX11_init 155 = .ok (.return_, 1) := by decide +kernel
theorem dX11_feed_0 : decode cX11_feed 0 = .ok (.aload_n 0, 1) := by decide +kernel
theorem dX11_feed_1 : decode cX11_feed 1 = .ok (.getfield 15, 3) := by decide +kernel
theorem dX11_feed_4 : decode cX11_feed 4 = .ok (.getfield 82, 3) := by decide +kernel
theorem dX11_feed_7 : decode cX11_feed 7 = .ok (.sipush 3980, 3) := by decide +kernel
theorem dX11_feed_10 : decode cX11_feed 10 = .ok (.if_icmp .le 5, 3) := by decide +kernel
theorem dX11_feed_13 : decode cX11_feed 13 = .ok (.iconst (-1), 1) := by decide +kernel
theorem dX11_feed_14 : decode cX11_feed 14 = .ok (.ireturn, 1) := by decide +kernel
theorem dX11_feed_15 : decode cX11_feed 15 = .ok (.aload_n 0, 1) := by decide +kernel
theorem dX11_feed_16 : decode cX11_feed 16 = .ok (.getfield 15, 3) := by decide +kernel
theorem dX11_feed_19 : decode cX11_feed 19 = .ok (.iload_n 1, 1) := by decide +kernel
theorem dX11_feed_20 : decode cX11_feed 20 = .ok (.invokevirtual 86, 3) := by decide +kernel
theorem dX11_feed_23 : decode cX11_feed 23 = .ok (.aload_n 0, 1) := by decide +kernel
theorem dX11_feed_24 : decode cX11_feed 24 = .ok (.getfield 15, 3) := by decide +kernel
theorem dX11_feed_27 : decode cX11_feed 27 = .ok (.iload_n 2, 1) := by decide +kernel
theorem dX11_feed_28 : decode cX11_feed 28 = .ok (.invokevirtual 86, 3) := by decide +kernel
theorem dX11_feed_31 : decode cX11_feed 31 = .ok (.aload_n 0, 1) := by decide +kernel
theorem dX11_feed_32 : decode cX11_feed 32 = .ok (.getfield 15, 3) := by decide +kernel
theorem dX11_feed_35 : decode cX11_feed 35 = .ok (.iload_n 3, 1) := by decide +kernel
theorem dX11_feed_36 : decode cX11_feed 36 = .ok (.invokevirtual 86, 3) := by decide +kernel
theorem dX11_feed_39 : decode cX11_feed 39 = .ok (.aload_n 0, 1) := by decide +kernel
theorem dX11_feed_40 : decode cX11_feed 40 = .ok (.getfield 15, 3) := by decide +kernel
theorem dX11_feed_43 : decode cX11_feed 43 = .ok (.iload 4, 2) := by decide +kernel
theorem dX11_feed_45 : decode cX11_feed 45 = .ok (.invokevirtual 86, 3) := by decide +kernel
theorem dX11_feed_48 : decode cX11_feed 48 = .ok (.aload_n 0, 1) := by decide +kernel
theorem dX11_feed_49 : decode cX11_feed 49 = .ok (.getfield 15, 3) := by decide +kernel
theorem dX11_feed_52 : decode cX11_feed 52 = .ok (.iload 5, 2) := by decide +kernel
theorem dX11_feed_54 : decode cX11_feed 54 = .ok (.invokevirtual 86, 3) := by decide +kernel
theorem dX11_feed_57 : decode cX11_feed 57 = .ok (.aload_n 0, 1) := by decide +kernel
theorem dX11_feed_58 : decode cX11_feed 58 = .ok (.getfield 15, 3) := by decide +kernel
theorem dX11_feed_61 : decode cX11_feed 61 = .ok (.getfield 82, 3) := by decide +kernel
theorem dX11_feed_64 : decode cX11_feed 64 = .ok (.ireturn, 1) := by decide +kernel
theorem dX11_end_0 : decode cX11_end 0 = .ok (.iload_n 1, 1) := by decide +kernel
theorem dX11_end_1 : decode cX11_end 1 = .ok (.ifCond .lt 14, 3) := by decide +kernel
theorem dX11_end_4 : decode cX11_end 4 = .ok (.iload_n 1, 1) := by decide +kernel
theorem dX11_end_5 : decode cX11_end 5 = .ok (.aload_n 0, 1) := by decide +kernel
theorem dX11_end_6 : decode cX11_end 6 = .ok (.getfield 15, 3) := by decide +kernel
theorem dX11_end_9 : decode cX11_end 9 = .ok (.getfield 82, 3) := by decide +kernel
theorem dX11_end_12 : decode cX11_end 12 = .ok (.if_icmp .le 5, 3) := by decide +kernel
theorem dX11_end_15 : decode cX11_end 15 = .ok (.iconst (-1), 1) := by decide +kernel
theorem dX11_end_16 : decode cX11_end 16 = .ok (.ireturn, 1) := by decide +kernel
theorem dX11_end_17 : decode cX11_end 17 = .ok (.aload_n 0, 1) := by decide +kernel
theorem dX11_end_18 : decode cX11_end 18 = .ok (.getfield 15, 3) := by decide +kernel
theorem dX11_end_21 : decode cX11_end 21 = .ok (.iload_n 1, 1) := by decide +kernel
theorem dX11_end_22 : decode cX11_end 22 = .ok (.putfield 82, 3) := by decide +kernel
theorem dX11_end_25 : decode cX11_end 25 = .ok (.iload_n 1, 1) := by decide +kernel
theorem dX11_end_26 : decode cX11_end 26 = .ok (.ireturn, 1) := by decide +kernel
theorem dX11_read_0 : decode cX11_read 0 = .ok (.aload_n 0, 1) := by decide +kernel
theorem dX11_read_1 : decode cX11_read 1 = .ok (.getfield 47, 3) := by decide +kernel
theorem dX11_read_4 : decode cX11_read 4 = .ok (.invokevirtual 90, 3) := by decide +kernel
theorem dX11_read_7 : decode cX11_read 7 = .ok (.aload_n 0, 1) := by decide +kernel
theorem dX11_read_8 : decode cX11_read 8 = .ok (.getfield 38, 3) := by decide +kernel
theorem dX11_read_11 : decode cX11_read 11 = .ok (.invokevirtual 93, 3) := by decide +kernel
theorem dX11_read_14 : decode cX11_read 14 = .ok (.aload_n 0, 1) := by decide +kernel
theorem dX11_read_15 : decode cX11_read 15 = .ok (.getfield 38, 3) := by decide +kernel
theorem dX11_read_18 : decode cX11_read 18 = .ok (.invokevirtual 96, 3) := by decide +kernel
theorem dX11_read_21 : decode cX11_read 21 = .ok (.aload_n 0, 1) := by decide +kernel
theorem dX11_read_22 : decode cX11_read 22 = .ok (.getfield 24, 3) := by decide +kernel
theorem dX11_read_25 : decode cX11_read 25 = .ok (.invokevirtual 99, 3) := by decide +kernel
theorem dX11_read_28 : decode cX11_read 28 = .ok (.aload_n 0, 1) := by decide +kernel
theorem dX11_read_29 : decode cX11_read 29 = .ok (.getfield 71, 3) := by decide +kernel
theorem dX11_read_32 : decode cX11_read 32 = .ok (.aload_n 0, 1) := by decide +kernel
theorem dX11_read_33 : decode cX11_read 33 = .ok (.getfield 24, 3) := by decide +kernel
theorem dX11_read_36 : decode cX11_read 36 = .ok (.invokevirtual 102, 3) := by decide +kernel
theorem dX11_read_39 : decode cX11_read 39 = .ok (.invokevirtual 106, 3) := by decide +kernel
theorem dX11_read_42 : decode cX11_read 42 = .ok (.aload_n 0, 1) := by decide +kernel
theorem dX11_read_43 : decode cX11_read 43 = .ok (.getfield 71, 3) := by decide +kernel
theorem dX11_read_46 : decode cX11_read 46 = .ok (.iconst 0, 1) := by decide +kernel
theorem dX11_read_47 : decode cX11_read 47 = .ok (.invokevirtual 109, 3) := by decide +kernel
theorem dX11_read_50 : decode cX11_read 50 = .ok (.istore_n 1, 1) := by decide +kernel
theorem dX11_read_51 : decode cX11_read 51 = .ok (.iload_n 1, 1) := by decide +kernel
theorem dX11_read_52 : decode cX11_read 52 = .ok (.ifCond .ne 12, 3) := by decide +kernel
theorem dX11_read_55 : decode cX11_read 55 = .ok (.aload_n 0, 1) := by decide +kernel
theorem dX11_read_56 : decode cX11_read 56 = .ok (.getfield 71, 3) := by decide +kernel
theorem dX11_read_59 : decode cX11_read 59 = .ok (.iconst 1, 1) := by decide +kernel
theorem dX11_read_60 : decode cX11_read 60 = .ok (.invokevirtual 109, 3) := by decide +kernel
theorem dX11_read_63 : decode cX11_read 63 = .ok (.istore_n 1, 1) := by decide +kernel
theorem dX11_read_64 : decode cX11_read 64 = .ok (.aload_n 0, 1) := by decide +kernel
theorem dX11_read_65 : decode cX11_read 65 = .ok (.getfield 31, 3) := by decide +kernel
theorem dX11_read_68 : decode cX11_read 68 = .ok (.iload_n 1, 1) := by decide +kernel
theorem dX11_read_69 : decode cX11_read 69 = .ok (.ifCond .ne 7, 3) := by decide +kernel
theorem dX11_read_72 : decode cX11_read 72 = .ok (.iconst 1, 1) := by decide +kernel
theorem dX11_read_73 : decode cX11_read 73 = .ok (.goto 4, 3) := by decide +kernel
theorem dX11_read_76 : decode cX11_read 76 = .ok (.iconst 0, 1) := by decide +kernel
theorem dX11_read_77 : decode cX11_read 77 = .ok (.putfield 113, 3) := by decide +kernel
theorem dX11_read_80 : decode cX11_read 80 = .ok (.aload_n 0, 1) := by decide +kernel
theorem dX11_read_81 : decode cX11_read 81 = .ok (.getfield 15, 3) := by decide +kernel
theorem dX11_read_84 : decode cX11_read 84 = .ok (.iconst 0, 1) := by decide +kernel
theorem dX11_read_85 : decode cX11_read 85 = .ok (.putfield 82, 3) := by decide +kernel
theorem dX11_read_88 : decode cX11_read 88 = .ok (.iload_n 1, 1) := by decide +kernel
theorem dX11_read_89 : decode cX11_read 89 = .ok (.ireturn, 1) := by decide +kernel
theorem dX11_look_0 : decode cX11_look 0 = .ok (.aload_n 0, 1) := by decide +kernel
theorem dX11_look_1 : decode cX11_look 1 = .ok (.getfield 31, 3) := by decide +kernel
theorem dX11_look_4 : decode cX11_look 4 = .ok (.getfield 113, 3) := by decide +kernel
theorem dX11_look_7 : decode cX11_look 7 = .ok (.ifCond .ne 5, 3) := by decide +kernel
theorem dX11_look_10 : decode cX11_look 10 = .ok (.iconst (-1), 1) := by decide +kernel
theorem dX11_look_11 : decode cX11_look 11 = .ok (.ireturn, 1) := by decide +kernel
theorem dX11_look_12 : decode cX11_look 12 = .ok (.iload_n 1, 1) := by decide +kernel
theorem dX11_look_13 : decode cX11_look 13 = .ok (.ifCond .ne 11, 3) := by decide +kernel
theorem dX11_look_16 : decode cX11_look 16 = .ok (.aload_n 0, 1) := by decide +kernel
theorem dX11_look_17 : decode cX11_look 17 = .ok (.getfield 31, 3) := by decide +kernel
theorem dX11_look_20 : decode cX11_look 20 = .ok (.getfield 117, 3) := by decide +kernel
theorem dX11_look_23 : decode cX11_look 23 = .ok (.ireturn, 1) := by decide +kernel
theorem dX11_look_24 : decode cX11_look 24 = .ok (.iload_n 1, 1) := by decide +kernel
theorem dX11_look_25 : decode cX11_look 25 = .ok (.iconst 1, 1) := by decide +kernel
theorem dX11_look_26 : decode cX11_look 26 = .ok (.if_icmp .ne 11, 3) := by decide +kernel
theorem dX11_look_29 : decode cX11_look 29 = .ok (.aload_n 0, 1) := by decide +kernel
theorem dX11_look_30 : decode cX11_look 30 = .ok (.getfield 31, 3) := by decide +kernel
theorem dX11_look_33 : decode cX11_look 33 = .ok (.getfield 120, 3) := by decide +kernel
theorem dX11_look_36 : decode cX11_look 36 = .ok (.ireturn, 1) := by decide +kernel
theorem dX11_look_37 : decode cX11_look 37 = .ok (.iload_n 2, 1) := by decide +kernel
theorem dX11_look_38 : decode cX11_look 38 = .ok (.ifCond .lt 14, 3) := by decide +kernel
theorem dX11_look_41 : decode cX11_look 41 = .ok (.iload_n 2, 1) := by decide +kernel
theorem dX11_look_42 : decode cX11_look 42 = .ok (.aload_n 0, 1) := by decide +kernel
theorem dX11_look_43 : decode cX11_look 43 = .ok (.getfield 31, 3) := by decide +kernel
theorem dX11_look_46 : decode cX11_look 46 = .ok (.getfield 117, 3) := by decide +kernel
theorem dX11_look_49 : decode cX11_look 49 = .ok (.if_icmp .lt 5, 3) := by decide +kernel
theorem dX11_look_52 : decode cX11_look 52 = .ok (.iconst (-1), 1) := by decide +kernel
theorem dX11_look_53 : decode cX11_look 53 = .ok (.ireturn, 1) := by decide +kernel
theorem dX11_look_54 : decode cX11_look 54 = .ok (.iload_n 1, 1) := by decide +kernel
theorem dX11_look_55 : decode cX11_look 55 = .ok (.tableswitch 76 2 5 #[29, 39, 49, 59], 29) := by decide +kernel
theorem dX11_look_84 : decode cX11_look 84 = .ok (.aload_n 0, 1) := by decide +kernel
theorem dX11_look_85 : decode cX11_look 85 = .ok (.getfield 31, 3) := by decide +kernel
theorem dX11_look_88 : decode cX11_look 88 = .ok (.getfield 123, 3) := by decide +kernel
theorem dX11_look_91 : decode cX11_look 91 = .ok (.iload_n 2, 1) := by decide +kernel
theorem dX11_look_92 : decode cX11_look 92 = .ok (.iaload, 1) := by decide +kernel
theorem dX11_look_93 : decode cX11_look 93 = .ok (.ireturn, 1) := by decide +kernel
theorem dX11_look_94 : decode cX11_look 94 = .ok (.aload_n 0, 1) := by decide +kernel
theorem dX11_look_95 : decode cX11_look 95 = .ok (.getfield 31, 3) := by decide +kernel
theorem dX11_look_98 : decode cX11_look 98 = .ok (.getfield 127, 3) := by decide +kernel
theorem dX11_look_101 : decode cX11_look 101 = .ok (.iload_n 2, 1) := by decide +kernel
theorem dX11_look_102 : decode cX11_look 102 = .ok (.iaload, 1) := by decide +kernel
theorem dX11_look_103 : decode cX11_look 103 = .ok (.ireturn, 1) := by decide +kernel
theorem dX11_look_104 : decode cX11_look 104 = .ok (.aload_n 0, 1) := by decide +kernel
theorem dX11_look_105 : decode cX11_look 105 = .ok (.getfield 31, 3) := by decide +kernel
theorem dX11_look_108 : decode cX11_look 108 = .ok (.getfield 130, 3) := by decide +kernel
theorem dX11_look_111 : decode cX11_look 111 = .ok (.iload_n 2, 1) := by decide +kernel
theorem dX11_look_112 : decode cX11_look 112 = .ok (.iaload, 1) := by decide +kernel
theorem dX11_look_113 : decode cX11_look 113 = .ok (.ireturn, 1) := by decide +kernel
theorem dX11_look_114 : decode cX11_look 114 = .ok (.aload_n 0, 1) := by decide +kernel
theorem dX11_look_115 : decode cX11_look 115 = .ok (.getfield 31, 3) := by decide +kernel
theorem dX11_look_118 : decode cX11_look 118 = .ok (.iload_n 2, 1) := by decide +kernel
theorem dX11_look_119 : decode cX11_look 119 = .ok (.invokevirtual 133, 3) := by decide +kernel
theorem dX11_look_122 : decode cX11_look 122 = .ok (.ifCond .eq 7, 3) := by decide +kernel
theorem dX11_look_125 : decode cX11_look 125 = .ok (.iconst 1, 1) := by decide +kernel
theorem dX11_look_126 : decode cX11_look 126 = .ok (.goto 4, 3) := by decide +kernel
theorem dX11_look_129 : decode cX11_look 129 = .ok (.iconst 0, 1) := by decide +kernel
theorem dX11_look_130 : decode cX11_look 130 = .ok (.ireturn, 1) := by decide +kernel
theorem dX11_look_131 : decode cX11_look 131 = .ok (.iconst (-1), 1) := by decide +kernel
theorem dX11_look_132 : decode cX11_look 132 = .ok (.ireturn, 1) := by decide +kernel
theorem dX11_give_0 : decode cX11_give 0 = .ok (.aload_n 0, 1) := by decide +kernel
theorem dX11_give_1 : decode cX11_give 1 = .ok (.getfield 31, 3) := by decide +kernel
theorem dX11_give_4 : decode cX11_give 4 = .ok (.getfield 113, 3) := by decide +kernel
theorem dX11_give_7 : decode cX11_give 7 = .ok (.ifCond .eq 14, 3) := by decide +kernel
theorem dX11_give_10 : decode cX11_give 10 = .ok (.aload_n 0, 1) := by decide +kernel
theorem dX11_give_11 : decode cX11_give 11 = .ok (.getfield 38, 3) := by decide +kernel
theorem dX11_give_14 : decode cX11_give 14 = .ok (.iload_n 1, 1) := by decide +kernel
theorem dX11_give_15 : decode cX11_give 15 = .ok (.invokevirtual 137, 3) := by decide +kernel
theorem dX11_give_18 : decode cX11_give 18 = .ok (.ifCond .ne 5, 3) := by decide +kernel
theorem dX11_give_21 : decode cX11_give 21 = .ok (.iconst (-1), 1) := by decide +kernel
theorem dX11_give_22 : decode cX11_give 22 = .ok (.ireturn, 1) := by decide +kernel
theorem dX11_give_23 : decode cX11_give 23 = .ok (.aload_n 0, 1) := by decide +kernel
theorem dX11_give_24 : decode cX11_give 24 = .ok (.getfield 38, 3) := by decide +kernel
theorem dX11_give_27 : decode cX11_give 27 = .ok (.getfield 140, 3) := by decide +kernel
theorem dX11_give_30 : decode cX11_give 30 = .ok (.ireturn, 1) := by decide +kernel
theorem dX11_begin_0 : decode cX11_begin 0 = .ok (.aload_n 0, 1) := by decide +kernel
theorem dX11_begin_1 : decode cX11_begin 1 = .ok (.getfield 31, 3) := by decide +kernel
theorem dX11_begin_4 : decode cX11_begin 4 = .ok (.getfield 113, 3) := by decide +kernel
theorem dX11_begin_7 : decode cX11_begin 7 = .ok (.ifCond .eq 15, 3) := by decide +kernel
theorem dX11_begin_10 : decode cX11_begin 10 = .ok (.iload_n 1, 1) := by decide +kernel
theorem dX11_begin_11 : decode cX11_begin 11 = .ok (.iconst 4, 1) := by decide +kernel
theorem dX11_begin_12 : decode cX11_begin 12 = .ok (.if_icmp .lt 10, 3) := by decide +kernel
theorem dX11_begin_15 : decode cX11_begin 15 = .ok (.iload_n 1, 1) := by decide +kernel
theorem dX11_begin_16 : decode cX11_begin 16 = .ok (.sipush 2000, 3) := by decide +kernel
theorem dX11_begin_19 : decode cX11_begin 19 = .ok (.if_icmp .le 5, 3) := by decide +kernel
theorem dX11_begin_22 : decode cX11_begin 22 = .ok (.iconst 0, 1) := by decide +kernel
theorem dX11_begin_23 : decode cX11_begin 23 = .ok (.ireturn, 1) := by decide +kernel
theorem dX11_begin_24 : decode cX11_begin 24 = .ok (.aload_n 0, 1) := by decide +kernel
theorem dX11_begin_25 : decode cX11_begin 25 = .ok (.getfield 38, 3) := by decide +kernel
theorem dX11_begin_28 : decode cX11_begin 28 = .ok (.invokevirtual 96, 3) := by decide +kernel
theorem dX11_begin_31 : decode cX11_begin 31 = .ok (.aload_n 0, 1) := by decide +kernel
theorem dX11_begin_32 : decode cX11_begin 32 = .ok (.getfield 47, 3) := by decide +kernel
theorem dX11_begin_35 : decode cX11_begin 35 = .ok (.iload_n 1, 1) := by decide +kernel
theorem dX11_begin_36 : decode cX11_begin 36 = .ok (.invokevirtual 143, 3) := by decide +kernel
theorem dX11_begin_39 : decode cX11_begin 39 = .ok (.iconst 1, 1) := by decide +kernel
theorem dX11_begin_40 : decode cX11_begin 40 = .ok (.ireturn, 1) := by decide +kernel
theorem dX11_run_0 : decode cX11_run 0 = .ok (.iload_n 1, 1) := by decide +kernel
theorem dX11_run_1 : decode cX11_run 1 = .ok (.ifCond .lt 20, 3) := by decide +kernel
theorem dX11_run_4 : decode cX11_run 4 = .ok (.iload_n 1, 1) := by decide +kernel
theorem dX11_run_5 : decode cX11_run 5 = .ok (.sipush 1000, 3) := by decide +kernel
theorem dX11_run_8 : decode cX11_run 8 = .ok (.if_icmp .gt 13, 3) := by decide +kernel
theorem dX11_run_11 : decode cX11_run 11 = .ok (.aload_n 0, 1) := by decide +kernel
theorem dX11_run_12 : decode cX11_run 12 = .ok (.getfield 47, 3) := by decide +kernel
theorem dX11_run_15 : decode cX11_run 15 = .ok (.getfield 146, 3) := by decide +kernel
theorem dX11_run_18 : decode cX11_run 18 = .ok (.ifCond .ne 5, 3) := by decide +kernel
theorem dX11_run_21 : decode cX11_run 21 = .ok (.iconst (-1), 1) := by decide +kernel
theorem dX11_run_22 : decode cX11_run 22 = .ok (.ireturn, 1) := by decide +kernel
theorem dX11_run_23 : decode cX11_run 23 = .ok (.aload_n 0, 1) := by decide +kernel
theorem dX11_run_24 : decode cX11_run 24 = .ok (.getfield 47, 3) := by decide +kernel
theorem dX11_run_27 : decode cX11_run 27 = .ok (.iload_n 1, 1) := by decide +kernel
theorem dX11_run_28 : decode cX11_run 28 = .ok (.invokevirtual 149, 3) := by decide +kernel
theorem dX11_run_31 : decode cX11_run 31 = .ok (.aload_n 0, 1) := by decide +kernel
theorem dX11_run_32 : decode cX11_run 32 = .ok (.getfield 47, 3) := by decide +kernel
theorem dX11_run_35 : decode cX11_run 35 = .ok (.getfield 146, 3) := by decide +kernel
theorem dX11_run_38 : decode cX11_run 38 = .ok (.ireturn, 1) := by decide +kernel
theorem dX11_output_0 : decode cX11_output 0 = .ok (.aload_n 0, 1) := by decide +kernel
theorem dX11_output_1 : decode cX11_output 1 = .ok (.getfield 38, 3) := by decide +kernel
theorem dX11_output_4 : decode cX11_output 4 = .ok (.iload_n 1, 1) := by decide +kernel
theorem dX11_output_5 : decode cX11_output 5 = .ok (.invokevirtual 152, 3) := by decide +kernel
theorem dX11_output_8 : decode cX11_output 8 = .ok (.ireturn, 1) := by decide +kernel
theorem dX11_world_0 : decode cX11_world 0 = .ok (.iload_n 1, 1) := by decide +kernel
theorem dX11_world_1 : decode cX11_world 1 = .ok (.tableswitch 111 0 7 #[47, 55, 63, 71, 79, 87, 95, 103], 47) := by decide +kernel
theorem dX11_world_48 : decode cX11_world 48 = .ok (.aload_n 0, 1) := by decide +kernel
theorem dX11_world_49 : decode cX11_world 49 = .ok (.getfield 47, 3) := by decide +kernel
theorem dX11_world_52 : decode cX11_world 52 = .ok (.getfield 146, 3) := by decide +kernel
theorem dX11_world_55 : decode cX11_world 55 = .ok (.ireturn, 1) := by decide +kernel
theorem dX11_world_56 : decode cX11_world 56 = .ok (.aload_n 0, 1) := by decide +kernel
theorem dX11_world_57 : decode cX11_world 57 = .ok (.getfield 47, 3) := by decide +kernel
theorem dX11_world_60 : decode cX11_world 60 = .ok (.getfield 156, 3) := by decide +kernel
theorem dX11_world_63 : decode cX11_world 63 = .ok (.ireturn, 1) := by decide +kernel
theorem dX11_world_64 : decode cX11_world 64 = .ok (.aload_n 0, 1) := by decide +kernel
theorem dX11_world_65 : decode cX11_world 65 = .ok (.getfield 38, 3) := by decide +kernel
theorem dX11_world_68 : decode cX11_world 68 = .ok (.getfield 159, 3) := by decide +kernel
theorem dX11_world_71 : decode cX11_world 71 = .ok (.ireturn, 1) := by decide +kernel
theorem dX11_world_72 : decode cX11_world 72 = .ok (.aload_n 0, 1) := by decide +kernel
theorem dX11_world_73 : decode cX11_world 73 = .ok (.getfield 38, 3) := by decide +kernel
theorem dX11_world_76 : decode cX11_world 76 = .ok (.getfield 140, 3) := by decide +kernel
theorem dX11_world_79 : decode cX11_world 79 = .ok (.ireturn, 1) := by decide +kernel
theorem dX11_world_80 : decode cX11_world 80 = .ok (.aload_n 0, 1) := by decide +kernel
theorem dX11_world_81 : decode cX11_world 81 = .ok (.getfield 47, 3) := by decide +kernel
theorem dX11_world_84 : decode cX11_world 84 = .ok (.getfield 162, 3) := by decide +kernel
theorem dX11_world_87 : decode cX11_world 87 = .ok (.ireturn, 1) := by decide +kernel
theorem dX11_world_88 : decode cX11_world 88 = .ok (.aload_n 0, 1) := by decide +kernel
theorem dX11_world_89 : decode cX11_world 89 = .ok (.getfield 47, 3) := by decide +kernel
theorem dX11_world_92 : decode cX11_world 92 = .ok (.getfield 165, 3) := by decide +kernel
theorem dX11_world_95 : decode cX11_world 95 = .ok (.ireturn, 1) := by decide +kernel
theorem dX11_world_96 : decode cX11_world 96 = .ok (.aload_n 0, 1) := by decide +kernel
theorem dX11_world_97 : decode cX11_world 97 = .ok (.getfield 47, 3) := by decide +kernel
theorem dX11_world_100 : decode cX11_world 100 = .ok (.invokevirtual 168, 3) := by decide +kernel
theorem dX11_world_103 : decode cX11_world 103 = .ok (.ireturn, 1) := by decide +kernel
theorem dX11_world_104 : decode cX11_world 104 = .ok (.aload_n 0, 1) := by decide +kernel
theorem dX11_world_105 : decode cX11_world 105 = .ok (.getfield 47, 3) := by decide +kernel
theorem dX11_world_108 : decode cX11_world 108 = .ok (.getfield 171, 3) := by decide +kernel
theorem dX11_world_111 : decode cX11_world 111 = .ok (.ireturn, 1) := by decide +kernel
theorem dX11_world_112 : decode cX11_world 112 = .ok (.iconst (-1), 1) := by decide +kernel
theorem dX11_world_113 : decode cX11_world 113 = .ok (.ireturn, 1) := by decide +kernel
theorem dX11_global_0 : decode cX11_global 0 = .ok (.aload_n 0, 1) := by decide +kernel
theorem dX11_global_1 : decode cX11_global 1 = .ok (.getfield 31, 3) := by decide +kernel
theorem dX11_global_4 : decode cX11_global 4 = .ok (.getfield 113, 3) := by decide +kernel
theorem dX11_global_7 : decode cX11_global 7 = .ok (.ifCond .eq 18, 3) := by decide +kernel
theorem dX11_global_10 : decode cX11_global 10 = .ok (.iload_n 1, 1) := by decide +kernel
theorem dX11_global_11 : decode cX11_global 11 = .ok (.ifCond .lt 14, 3) := by decide +kernel
theorem dX11_global_14 : decode cX11_global 14 = .ok (.iload_n 1, 1) := by decide +kernel
theorem dX11_global_15 : decode cX11_global 15 = .ok (.aload_n 0, 1) := by decide +kernel
theorem dX11_global_16 : decode cX11_global 16 = .ok (.getfield 31, 3) := by decide +kernel
theorem dX11_global_19 : decode cX11_global 19 = .ok (.getfield 120, 3) := by decide +kernel
theorem dX11_global_22 : decode cX11_global 22 = .ok (.if_icmp .lt 5, 3) := by decide +kernel
theorem dX11_global_25 : decode cX11_global 25 = .ok (.iconst 0, 1) := by decide +kernel
theorem dX11_global_26 : decode cX11_global 26 = .ok (.ireturn, 1) := by decide +kernel
theorem dX11_global_27 : decode cX11_global 27 = .ok (.aload_n 0, 1) := by decide +kernel
theorem dX11_global_28 : decode cX11_global 28 = .ok (.getfield 47, 3) := by decide +kernel
theorem dX11_global_31 : decode cX11_global 31 = .ok (.getfield 146, 3) := by decide +kernel
theorem dX11_global_34 : decode cX11_global 34 = .ok (.ifCond .ne 14, 3) := by decide +kernel
theorem dX11_global_37 : decode cX11_global 37 = .ok (.aload_n 0, 1) := by decide +kernel
theorem dX11_global_38 : decode cX11_global 38 = .ok (.getfield 31, 3) := by decide +kernel
theorem dX11_global_41 : decode cX11_global 41 = .ok (.iload_n 1, 1) := by decide +kernel
theorem dX11_global_42 : decode cX11_global 42 = .ok (.invokevirtual 174, 3) := by decide +kernel
theorem dX11_global_45 : decode cX11_global 45 = .ok (.goto 11, 3) := by decide +kernel
theorem dX11_global_48 : decode cX11_global 48 = .ok (.aload_n 0, 1) := by decide +kernel
theorem dX11_global_49 : decode cX11_global 49 = .ok (.getfield 47, 3) := by decide +kernel
theorem dX11_global_52 : decode cX11_global 52 = .ok (.iload_n 1, 1) := by decide +kernel
theorem dX11_global_53 : decode cX11_global 53 = .ok (.invokevirtual 177, 3) := by decide +kernel
theorem dX11_global_56 : decode cX11_global 56 = .ok (.ireturn, 1) := by decide +kernel
theorem dX11_put_0 : decode cX11_put 0 = .ok (.aload_n 0, 1) := by decide +kernel
theorem dX11_put_1 : decode cX11_put 1 = .ok (.getfield 78, 3) := by decide +kernel
theorem dX11_put_4 : decode cX11_put 4 = .ok (.iload_n 1, 1) := by decide +kernel
theorem dX11_put_5 : decode cX11_put 5 = .ok (.iload_n 2, 1) := by decide +kernel
theorem dX11_put_6 : decode cX11_put 6 = .ok (.invokevirtual 180, 3) := by decide +kernel
theorem dX11_put_9 : decode cX11_put 9 = .ok (.ireturn, 1) := by decide +kernel
theorem dX11_set_0 : decode cX11_set 0 = .ok (.aload_n 0, 1) := by decide +kernel
theorem dX11_set_1 : decode cX11_set 1 = .ok (.getfield 78, 3) := by decide +kernel
theorem dX11_set_4 : decode cX11_set 4 = .ok (.iload_n 1, 1) := by decide +kernel
theorem dX11_set_5 : decode cX11_set 5 = .ok (.iload_n 2, 1) := by decide +kernel
theorem dX11_set_6 : decode cX11_set 6 = .ok (.invokevirtual 184, 3) := by decide +kernel
theorem dX11_set_9 : decode cX11_set 9 = .ok (.ireturn, 1) := by decide +kernel
theorem dX11_go_0 : decode cX11_go 0 = .ok (.iload_n 1, 1) := by decide +kernel
theorem dX11_go_1 : decode cX11_go 1 = .ok (.iconst 1, 1) := by decide +kernel
theorem dX11_go_2 : decode cX11_go 2 = .ok (.if_icmp .lt 10, 3) := by decide +kernel
theorem dX11_go_5 : decode cX11_go 5 = .ok (.iload_n 1, 1) := by decide +kernel
theorem dX11_go_6 : decode cX11_go 6 = .ok (.sipush 1000, 3) := by decide +kernel
theorem dX11_go_9 : decode cX11_go 9 = .ok (.if_icmp .le 7, 3) := by decide +kernel
theorem dX11_go_12 : decode cX11_go 12 = .ok (.iconst (-1), 1) := by decide +kernel
theorem dX11_go_13 : decode cX11_go 13 = .ok (.goto 11, 3) := by decide +kernel
theorem dX11_go_16 : decode cX11_go 16 = .ok (.aload_n 0, 1) := by decide +kernel
theorem dX11_go_17 : decode cX11_go 17 = .ok (.getfield 78, 3) := by decide +kernel
theorem dX11_go_20 : decode cX11_go 20 = .ok (.iload_n 1, 1) := by decide +kernel
theorem dX11_go_21 : decode cX11_go 21 = .ok (.invokevirtual 187, 3) := by decide +kernel
theorem dX11_go_24 : decode cX11_go 24 = .ok (.ireturn, 1) := by decide +kernel
theorem dX11_board_0 : decode cX11_board 0 = .ok (.aload_n 0, 1) := by decide +kernel
theorem dX11_board_1 : decode cX11_board 1 = .ok (.getfield 78, 3) := by decide +kernel
theorem dX11_board_4 : decode cX11_board 4 = .ok (.iload_n 1, 1) := by decide +kernel
theorem dX11_board_5 : decode cX11_board 5 = .ok (.invokevirtual 190, 3) := by decide +kernel
theorem dX11_board_8 : decode cX11_board 8 = .ok (.ireturn, 1) := by decide +kernel
theorem dX11_truth_0 : decode cX11_truth 0 = .ok (.iload_n 0, 1) := by decide +kernel
theorem dX11_truth_1 : decode cX11_truth 1 = .ok (.ifCond .eq 7, 3) := by decide +kernel
theorem dX11_truth_4 : decode cX11_truth 4 = .ok (.iconst 1, 1) := by decide +kernel
theorem dX11_truth_5 : decode cX11_truth 5 = .ok (.goto 4, 3) := by decide +kernel
theorem dX11_truth_8 : decode cX11_truth 8 = .ok (.iconst 0, 1) := by decide +kernel
theorem dX11_truth_9 : decode cX11_truth 9 = .ok (.ireturn, 1) := by decide +kernel
theorem dX11_joined_0 : decode cX11_joined 0 = .ok (.iload_n 0, 1) := by decide +kernel
theorem dX11_joined_1 : decode cX11_joined 1 = .ok (.tableswitch 228 45 61 #[83, 87, 91, 95, 106, 117, 128, 139, 150, 161, 165, 169, 173, 177, 181, 185, 207], 83) := by decide +kernel
theorem dX11_joined_84 : decode cX11_joined 84 = .ok (.iload_n 1, 1) := by decide +kernel
theorem dX11_joined_85 : decode cX11_joined 85 = .ok (.iload_n 2, 1) := by decide +kernel
theorem dX11_joined_86 : decode cX11_joined 86 = .ok (.ior, 1) := by decide +kernel
theorem dX11_joined_87 : decode cX11_joined 87 = .ok (.ireturn, 1) := by decide +kernel
theorem dX11_joined_88 : decode cX11_joined 88 = .ok (.iload_n 1, 1) := by decide +kernel
theorem dX11_joined_89 : decode cX11_joined 89 = .ok (.iload_n 2, 1) := by decide +kernel
theorem dX11_joined_90 : decode cX11_joined 90 = .ok (.ixor, 1) := by decide +kernel
theorem dX11_joined_91 : decode cX11_joined 91 = .ok (.ireturn, 1) := by decide +kernel
theorem dX11_joined_92 : decode cX11_joined 92 = .ok (.iload_n 1, 1) := by decide +kernel
theorem dX11_joined_93 : decode cX11_joined 93 = .ok (.iload_n 2, 1) := by decide +kernel
theorem dX11_joined_94 : decode cX11_joined 94 = .ok (.iand, 1) := by decide +kernel
theorem dX11_joined_95 : decode cX11_joined 95 = .ok (.ireturn, 1) := by decide +kernel
theorem dX11_joined_96 : decode cX11_joined 96 = .ok (.iload_n 1, 1) := by decide +kernel
theorem dX11_joined_97 : decode cX11_joined 97 = .ok (.iload_n 2, 1) := by decide +kernel
theorem dX11_joined_98 : decode cX11_joined 98 = .ok (.if_icmp .ne 7, 3) := by decide +kernel
theorem dX11_joined_101 : decode cX11_joined 101 = .ok (.iconst 1, 1) := by decide +kernel
theorem dX11_joined_102 : decode cX11_joined 102 = .ok (.goto 4, 3) := by decide +kernel
theorem dX11_joined_105 : decode cX11_joined 105 = .ok (.iconst 0, 1) := by decide +kernel
theorem dX11_joined_106 : decode cX11_joined 106 = .ok (.ireturn, 1) := by decide +kernel
theorem dX11_joined_107 : decode cX11_joined 107 = .ok (.iload_n 1, 1) := by decide +kernel
theorem dX11_joined_108 : decode cX11_joined 108 = .ok (.iload_n 2, 1) := by decide +kernel
theorem dX11_joined_109 : decode cX11_joined 109 = .ok (.if_icmp .eq 7, 3) := by decide +kernel
theorem dX11_joined_112 : decode cX11_joined 112 = .ok (.iconst 1, 1) := by decide +kernel
theorem dX11_joined_113 : decode cX11_joined 113 = .ok (.goto 4, 3) := by decide +kernel
theorem dX11_joined_116 : decode cX11_joined 116 = .ok (.iconst 0, 1) := by decide +kernel
theorem dX11_joined_117 : decode cX11_joined 117 = .ok (.ireturn, 1) := by decide +kernel
theorem dX11_joined_118 : decode cX11_joined 118 = .ok (.iload_n 1, 1) := by decide +kernel
theorem dX11_joined_119 : decode cX11_joined 119 = .ok (.iload_n 2, 1) := by decide +kernel
theorem dX11_joined_120 : decode cX11_joined 120 = .ok (.if_icmp .ge 7, 3) := by decide +kernel
theorem dX11_joined_123 : decode cX11_joined 123 = .ok (.iconst 1, 1) := by decide +kernel
theorem dX11_joined_124 : decode cX11_joined 124 = .ok (.goto 4, 3) := by decide +kernel
theorem dX11_joined_127 : decode cX11_joined 127 = .ok (.iconst 0, 1) := by decide +kernel
theorem dX11_joined_128 : decode cX11_joined 128 = .ok (.ireturn, 1) := by decide +kernel
theorem dX11_joined_129 : decode cX11_joined 129 = .ok (.iload_n 1, 1) := by decide +kernel
theorem dX11_joined_130 : decode cX11_joined 130 = .ok (.iload_n 2, 1) := by decide +kernel
theorem dX11_joined_131 : decode cX11_joined 131 = .ok (.if_icmp .gt 7, 3) := by decide +kernel
theorem dX11_joined_134 : decode cX11_joined 134 = .ok (.iconst 1, 1) := by decide +kernel
theorem dX11_joined_135 : decode cX11_joined 135 = .ok (.goto 4, 3) := by decide +kernel
theorem dX11_joined_138 : decode cX11_joined 138 = .ok (.iconst 0, 1) := by decide +kernel
theorem dX11_joined_139 : decode cX11_joined 139 = .ok (.ireturn, 1) := by decide +kernel
theorem dX11_joined_140 : decode cX11_joined 140 = .ok (.iload_n 1, 1) := by decide +kernel
theorem dX11_joined_141 : decode cX11_joined 141 = .ok (.iload_n 2, 1) := by decide +kernel
theorem dX11_joined_142 : decode cX11_joined 142 = .ok (.if_icmp .le 7, 3) := by decide +kernel
theorem dX11_joined_145 : decode cX11_joined 145 = .ok (.iconst 1, 1) := by decide +kernel
theorem dX11_joined_146 : decode cX11_joined 146 = .ok (.goto 4, 3) := by decide +kernel
theorem dX11_joined_149 : decode cX11_joined 149 = .ok (.iconst 0, 1) := by decide +kernel
theorem dX11_joined_150 : decode cX11_joined 150 = .ok (.ireturn, 1) := by decide +kernel
theorem dX11_joined_151 : decode cX11_joined 151 = .ok (.iload_n 1, 1) := by decide +kernel
theorem dX11_joined_152 : decode cX11_joined 152 = .ok (.iload_n 2, 1) := by decide +kernel
theorem dX11_joined_153 : decode cX11_joined 153 = .ok (.if_icmp .lt 7, 3) := by decide +kernel
theorem dX11_joined_156 : decode cX11_joined 156 = .ok (.iconst 1, 1) := by decide +kernel
theorem dX11_joined_157 : decode cX11_joined 157 = .ok (.goto 4, 3) := by decide +kernel
theorem dX11_joined_160 : decode cX11_joined 160 = .ok (.iconst 0, 1) := by decide +kernel
theorem dX11_joined_161 : decode cX11_joined 161 = .ok (.ireturn, 1) := by decide +kernel
theorem dX11_joined_162 : decode cX11_joined 162 = .ok (.iload_n 1, 1) := by decide +kernel
theorem dX11_joined_163 : decode cX11_joined 163 = .ok (.iload_n 2, 1) := by decide +kernel
theorem dX11_joined_164 : decode cX11_joined 164 = .ok (.ishl, 1) := by decide +kernel
theorem dX11_joined_165 : decode cX11_joined 165 = .ok (.ireturn, 1) := by decide +kernel
theorem dX11_joined_166 : decode cX11_joined 166 = .ok (.iload_n 1, 1) := by decide +kernel
theorem dX11_joined_167 : decode cX11_joined 167 = .ok (.iload_n 2, 1) := by decide +kernel
theorem dX11_joined_168 : decode cX11_joined 168 = .ok (.ishr, 1) := by decide +kernel
theorem dX11_joined_169 : decode cX11_joined 169 = .ok (.ireturn, 1) := by decide +kernel
theorem dX11_joined_170 : decode cX11_joined 170 = .ok (.iload_n 1, 1) := by decide +kernel
theorem dX11_joined_171 : decode cX11_joined 171 = .ok (.iload_n 2, 1) := by decide +kernel
theorem dX11_joined_172 : decode cX11_joined 172 = .ok (.iushr, 1) := by decide +kernel
theorem dX11_joined_173 : decode cX11_joined 173 = .ok (.ireturn, 1) := by decide +kernel
theorem dX11_joined_174 : decode cX11_joined 174 = .ok (.iload_n 1, 1) := by decide +kernel
theorem dX11_joined_175 : decode cX11_joined 175 = .ok (.iload_n 2, 1) := by decide +kernel
theorem dX11_joined_176 : decode cX11_joined 176 = .ok (.iadd, 1) := by decide +kernel
theorem dX11_joined_177 : decode cX11_joined 177 = .ok (.ireturn, 1) := by decide +kernel
theorem dX11_joined_178 : decode cX11_joined 178 = .ok (.iload_n 1, 1) := by decide +kernel
theorem dX11_joined_179 : decode cX11_joined 179 = .ok (.iload_n 2, 1) := by decide +kernel
theorem dX11_joined_180 : decode cX11_joined 180 = .ok (.isub, 1) := by decide +kernel
theorem dX11_joined_181 : decode cX11_joined 181 = .ok (.ireturn, 1) := by decide +kernel
theorem dX11_joined_182 : decode cX11_joined 182 = .ok (.iload_n 1, 1) := by decide +kernel
theorem dX11_joined_183 : decode cX11_joined 183 = .ok (.iload_n 2, 1) := by decide +kernel
theorem dX11_joined_184 : decode cX11_joined 184 = .ok (.imul, 1) := by decide +kernel
theorem dX11_joined_185 : decode cX11_joined 185 = .ok (.ireturn, 1) := by decide +kernel
theorem dX11_joined_186 : decode cX11_joined 186 = .ok (.iload_n 2, 1) := by decide +kernel
theorem dX11_joined_187 : decode cX11_joined 187 = .ok (.ifCond .ne 7, 3) := by decide +kernel
theorem dX11_joined_190 : decode cX11_joined 190 = .ok (.iconst (-1), 1) := by decide +kernel
theorem dX11_joined_191 : decode cX11_joined 191 = .ok (.goto 16, 3) := by decide +kernel
theorem dX11_joined_194 : decode cX11_joined 194 = .ok (.iload_n 2, 1) := by decide +kernel
theorem dX11_joined_195 : decode cX11_joined 195 = .ok (.iconst (-1), 1) := by decide +kernel
theorem dX11_joined_196 : decode cX11_joined 196 = .ok (.if_icmp .ne 8, 3) := by decide +kernel
theorem dX11_joined_199 : decode cX11_joined 199 = .ok (.iload_n 1, 1) := by decide +kernel
theorem dX11_joined_200 : decode cX11_joined 200 = .ok (.ineg, 1) := by decide +kernel
theorem dX11_joined_201 : decode cX11_joined 201 = .ok (.goto 6, 3) := by decide +kernel
theorem dX11_joined_204 : decode cX11_joined 204 = .ok (.iload_n 1, 1) := by decide +kernel
theorem dX11_joined_205 : decode cX11_joined 205 = .ok (.iload_n 2, 1) := by decide +kernel
theorem dX11_joined_206 : decode cX11_joined 206 = .ok (.idiv, 1) := by decide +kernel
theorem dX11_joined_207 : decode cX11_joined 207 = .ok (.ireturn, 1) := by decide +kernel
theorem dX11_joined_208 : decode cX11_joined 208 = .ok (.iload_n 2, 1) := by decide +kernel
theorem dX11_joined_209 : decode cX11_joined 209 = .ok (.ifCond .ne 7, 3) := by decide +kernel
theorem dX11_joined_212 : decode cX11_joined 212 = .ok (.iload_n 1, 1) := by decide +kernel
theorem dX11_joined_213 : decode cX11_joined 213 = .ok (.goto 15, 3) := by decide +kernel
theorem dX11_joined_216 : decode cX11_joined 216 = .ok (.iload_n 2, 1) := by decide +kernel
theorem dX11_joined_217 : decode cX11_joined 217 = .ok (.iconst (-1), 1) := by decide +kernel
theorem dX11_joined_218 : decode cX11_joined 218 = .ok (.if_icmp .ne 7, 3) := by decide +kernel
theorem dX11_joined_221 : decode cX11_joined 221 = .ok (.iconst 0, 1) := by decide +kernel
theorem dX11_joined_222 : decode cX11_joined 222 = .ok (.goto 6, 3) := by decide +kernel
theorem dX11_joined_225 : decode cX11_joined 225 = .ok (.iload_n 1, 1) := by decide +kernel
theorem dX11_joined_226 : decode cX11_joined 226 = .ok (.iload_n 2, 1) := by decide +kernel
theorem dX11_joined_227 : decode cX11_joined 227 = .ok (.irem, 1) := by decide +kernel
theorem dX11_joined_228 : decode cX11_joined 228 = .ok (.ireturn, 1) := by decide +kernel
theorem dX11_joined_229 : decode cX11_joined 229 = .ok (.iconst 0, 1) := by decide +kernel
theorem dX11_joined_230 : decode cX11_joined 230 = .ok (.ireturn, 1) := by decide +kernel
theorem dX12_init_0 : decode cX12_init 0 = .ok (.aload_n 0, 1) := by decide +kernel
theorem dX12_init_1 : decode cX12_init 1 = .ok (.invokespecial 1, 3) := by decide +kernel
theorem dX12_init_4 : decode cX12_init 4 = .ok (.aload_n 0, 1) := by decide +kernel
theorem dX12_init_5 : decode cX12_init 5 = .ok (.sipush 4000, 3) := by decide +kernel
theorem dX12_init_8 : decode cX12_init 8 = .ok (.newarray .int, 2) := by decide +kernel
theorem dX12_init_10 : decode cX12_init 10 = .ok (.putfield 9, 3) := by decide +kernel
theorem dX12_init_13 : decode cX12_init 13 = .ok (.aload_n 0, 1) := by decide +kernel
theorem dX12_init_14 : decode cX12_init 14 = .ok (.sipush 4000, 3) := by decide +kernel
theorem dX12_init_17 : decode cX12_init 17 = .ok (.newarray .int, 2) := by decide +kernel
theorem dX12_init_19 : decode cX12_init 19 = .ok (.putfield 13, 3) := by decide +kernel
theorem dX12_init_22 : decode cX12_init 22 = .ok (.aload_n 0, 1) := by decide +kernel
theorem dX12_init_23 : decode cX12_init 23 = .ok (.sipush 4002, 3) := by decide +kernel
theorem dX12_init_26 : decode cX12_init 26 = .ok (.newarray .int, 2) := by decide +kernel
theorem dX12_init_28 : decode cX12_init 28 = .ok (.putfield 16, 3) := by decide +kernel
theorem dX12_init_31 : decode cX12_init 31 = .ok (.aload_n 0, 1) := by decide +kernel
theorem dX12_init_32 : decode cX12_init 32 = .ok (.sipush 4002, 3) := by decide +kernel
theorem dX12_init_35 : decode cX12_init 35 = .ok (.newarray .int, 2) := by decide +kernel
theorem dX12_init_37 : decode cX12_init 37 = .ok (.putfield 19, 3) := by decide +kernel
theorem dX12_init_40 : decode cX12_init 40 = .ok (.aload_n 0, 1) := by decide +kernel
theorem dX12_init_41 : decode cX12_init 41 = .ok (.sipush 4002, 3) := by decide +kernel
theorem dX12_init_44 : decode cX12_init 44 = .ok (.newarray .int, 2) := by decide +kernel
theorem dX12_init_46 : decode cX12_init 46 = .ok (.putfield 22, 3) := by decide +kernel
theorem dX12_init_49 : decode cX12_init 49 = .ok (.aload_n 0, 1) := by decide +kernel
theorem dX12_init_50 : decode cX12_init 50 = .ok (.sipush 2100, 3) := by decide +kernel
theorem dX12_init_53 : decode cX12_init 53 = .ok (.newarray .int, 2) := by decide +kernel
theorem dX12_init_55 : decode cX12_init 55 = .ok (.putfield 25, 3) := by decide +kernel
theorem dX12_init_58 : decode cX12_init 58 = .ok (.aload_n 0, 1) := by decide +kernel
theorem dX12_init_59 : decode cX12_init 59 = .ok (.sipush 2100, 3) := by decide +kernel
theorem dX12_init_62 : decode cX12_init 62 = .ok (.newarray .int, 2) := by decide +kernel
theorem dX12_init_64 : decode cX12_init 64 = .ok (.putfield 28, 3) := by decide +kernel
theorem dX12_init_67 : decode cX12_init 67 = .ok (.aload_n 0, 1) := by decide +kernel
theorem dX12_init_68 : decode cX12_init 68 = .ok (.sipush 2100, 3) := by decide +kernel
theorem dX12_init_71 : decode cX12_init 71 = .ok (.newarray .int, 2) := by decide +kernel
theorem dX12_init_73 : decode cX12_init 73 = .ok (.putfield 31, 3) := by decide +kernel
theorem dX12_init_76 : decode cX12_init 76 = .ok (.aload_n 0, 1) := by decide +kernel
theorem dX12_init_77 : decode cX12_init 77 = .ok (.bipush 64, 2) := by decide +kernel
theorem dX12_init_79 : decode cX12_init 79 = .ok (.newarray .int, 2) := by decide +kernel
theorem dX12_init_81 : decode cX12_init 81 = .ok (.putfield 34, 3) := by decide +kernel
theorem dX12_init_84 : decode cX12_init 84 = .ok (.aload_n 0, 1) := by decide +kernel
theorem dX12_init_85 : decode cX12_init 85 = .ok (.sipush 900, 3) := by decide +kernel
theorem dX12_init_88 : decode cX12_init 88 = .ok (.newarray .int, 2) := by decide +kernel
theorem dX12_init_90 : decode cX12_init 90 = .ok (.putfield 37, 3) := by decide +kernel
theorem dX12_init_93 : decode cX12_init 93 = .ok (.aload_n 0, 1) := by decide +kernel
theorem dX12_init_94 : decode cX12_init 94 = .ok (.sipush 900, 3) := by decide +kernel
theorem dX12_init_97 : decode cX12_init 97 = .ok (.newarray .int, 2) := by decide +kernel
theorem dX12_init_99 : decode cX12_init 99 = .ok (.putfield 40, 3) := by decide +kernel
theorem dX12_init_102 : decode cX12_init 102 = .ok (.aload_n 0, 1) := by decide +kernel
theorem dX12_init_103 : decode cX12_init 103 = .ok (.sipush 900, 3) := by decide +kernel
theorem dX12_init_106 : decode cX12_init 106 = .ok (.newarray .int, 2) := by decide +kernel
theorem dX12_init_108 : decode cX12_init 108 = .ok (.putfield 43, 3) := by decide +kernel
theorem dX12_init_111 : decode cX12_init 111 = .ok (.aload_n 0, 1) := by decide +kernel
theorem dX12_init_112 : decode cX12_init 112 = .ok (.sipush 900, 3) := by decide +kernel
theorem dX12_init_115 : decode cX12_init 115 = .ok (.newarray .int, 2) := by decide +kernel
theorem dX12_init_117 : decode cX12_init 117 = .ok (.putfield 46, 3) := by decide +kernel
theorem dX12_init_120 : decode cX12_init 120 = .ok (.aload_n 0, 1) := by decide +kernel
theorem dX12_init_121 : decode cX12_init 121 = .ok (.sipush 900, 3) := by decide +kernel
theorem dX12_init_124 : decode cX12_init 124 = .ok (.newarray .int, 2) := by decide +kernel
theorem dX12_init_126 : decode cX12_init 126 = .ok (.putfield 49, 3) := by decide +kernel
theorem dX12_init_129 : decode cX12_init 129 = .ok (.aload_n 0, 1) := by decide +kernel
theorem dX12_init_130 : decode cX12_init 130 = .ok (.sipush 900, 3) := by decide +kernel
theorem dX12_init_133 : decode cX12_init 133 = .ok (.newarray .int, 2) := by decide +kernel
theorem dX12_init_135 : decode cX12_init 135 = .ok (.putfield 52, 3) := by decide +kernel
theorem dX12_init_138 : decode cX12_init 138 = .ok (.aload_n 0, 1) := by decide +kernel
theorem dX12_init_139 : decode cX12_init 139 = .ok (.sipush 900, 3) := by decide +kernel
theorem dX12_init_142 : decode cX12_init 142 = .ok (.newarray .boolean, 2) := by decide +kernel
theorem dX12_init_144 : decode cX12_init 144 = .ok (.putfield 55, 3) := by decide +kernel
theorem dX12_init_147 : decode cX12_init 147 = .ok (.aload_n 0, 1) := by decide +kernel
theorem dX12_init_148 : decode cX12_init 148 = .ok (.sipush 900, 3) := by decide +kernel
theorem dX12_init_151 : decode cX12_init 151 = .ok (.newarray .boolean, 2) := by decide +kernel
theorem dX12_init_153 : decode cX12_init 153 = .ok (.putfield 59, 3) := by decide +kernel
theorem dX12_init_156 : decode cX12_init 156 = .ok (.aload_n 0, 1) := by decide +kernel
theorem dX12_init_157 : decode cX12_init 157 = .ok (.sipush 500, 3) := by decide +kernel
theorem dX12_init_160 : decode cX12_init 160 = .ok (.newarray .int, 2) := by decide +kernel
theorem dX12_init_162 : decode cX12_init 162 = .ok (.putfield 62, 3) := by decide +kernel
theorem dX12_init_165 : decode cX12_init 165 = .ok (.aload_n 0, 1) := by decide +kernel
theorem dX12_init_166 : decode cX12_init 166 = .ok (.sipush 500, 3) := by decide +kernel
theorem dX12_init_169 : decode cX12_init 169 = .ok (.newarray .int, 2) := by decide +kernel
theorem dX12_init_171 : decode cX12_init 171 = .ok (.putfield 65, 3) := by decide +kernel
theorem dX12_init_174 : decode cX12_init 174 = .ok (.aload_n 0, 1) := by decide +kernel
theorem dX12_init_175 : decode cX12_init 175 = .ok (.sipush 500, 3) := by decide +kernel
theorem dX12_init_178 : decode cX12_init 178 = .ok (.newarray .int, 2) := by decide +kernel
theorem dX12_init_180 : decode cX12_init 180 = .ok (.putfield 68, 3) := by decide +kernel
theorem dX12_init_183 : decode cX12_init 183 = .ok (.aload_n 0, 1) := by decide +kernel
theorem dX12_init_184 : decode cX12_init 184 = .ok (.sipush 500, 3) := by decide +kernel
theorem dX12_init_187 : decode cX12_init 187 = .ok (.newarray .int, 2) := by decide +kernel
theorem dX12_init_189 : decode cX12_init 189 = .ok (.putfield 71, 3) := by decide +kernel
theorem dX12_init_192 : decode cX12_init 192 = .ok (.aload_n 0, 1) := by decide +kernel
theorem dX12_init_193 : decode cX12_init 193 = .ok (.sipush 500, 3) := by decide +kernel
theorem dX12_init_196 : decode cX12_init 196 = .ok (.newarray .int, 2) := by decide +kernel
theorem dX12_init_198 : decode cX12_init 198 = .ok (.putfield 74, 3) := by decide +kernel
theorem dX12_init_201 : decode cX12_init 201 = .ok (.aload_n 0, 1) := by decide +kernel
theorem dX12_init_202 : decode cX12_init 202 = .ok (.sipush 500, 3) := by decide +kernel
theorem dX12_init_205 : decode cX12_init 205 = .ok (.newarray .int, 2) := by decide +kernel
theorem dX12_init_207 : decode cX12_init 207 = .ok (.putfield 77, 3) := by decide +kernel
theorem dX12_init_210 : decode cX12_init 210 = .ok (.aload_n 0, 1) := by decide +kernel
theorem dX12_init_211 : decode cX12_init 211 = .ok (.sipush 500, 3) := by decide +kernel
theorem dX12_init_214 : decode cX12_init 214 = .ok (.newarray .int, 2) := by decide +kernel
theorem dX12_init_216 : decode cX12_init 216 = .ok (.putfield 80, 3) := by decide +kernel
theorem dX12_init_219 : decode cX12_init 219 = .ok (.aload_n 0, 1) := by decide +kernel
theorem dX12_init_220 : decode cX12_init 220 = .ok (.sipush 500, 3) := by decide +kernel
theorem dX12_init_223 : decode cX12_init 223 = .ok (.newarray .int, 2) := by decide +kernel
theorem dX12_init_225 : decode cX12_init 225 = .ok (.putfield 83, 3) := by decide +kernel
theorem dX12_init_228 : decode cX12_init 228 = .ok (.aload_n 0, 1) := by decide +kernel
theorem dX12_init_229 : decode cX12_init 229 = .ok (.sipush 500, 3) := by decide +kernel
theorem dX12_init_232 : decode cX12_init 232 = .ok (.newarray .boolean, 2) := by decide +kernel
theorem dX12_init_234 : decode cX12_init 234 = .ok (.putfield 86, 3) := by decide +kernel
theorem dX12_init_237 : decode cX12_init 237 = .ok (.aload_n 0, 1) := by decide +kernel
theorem dX12_init_238 : decode cX12_init 238 = .ok (.sipush 900, 3) := by decide +kernel
theorem dX12_init_241 : decode cX12_init 241 = .ok (.newarray .int, 2) := by decide +kernel
theorem dX12_init_243 : decode cX12_init 243 = .ok (.putfield 89, 3) := by decide +kernel
theorem dX12_init_246 : decode cX12_init 246 = .ok (.aload_n 0, 1) := by decide +kernel
theorem dX12_init_247 : decode cX12_init 247 = .ok (.sipush 2001, 3) := by decide +kernel
theorem dX12_init_250 : decode cX12_init 250 = .ok (.newarray .int, 2) := by decide +kernel
theorem dX12_init_252 : decode cX12_init 252 = .ok (.putfield 92, 3) := by decide +kernel
theorem dX12_init_255 : decode cX12_init 255 = .ok (.aload_n 0, 1) := by decide +kernel
theorem dX12_init_256 : decode cX12_init 256 = .ok (.sipush 2001, 3) := by decide +kernel
theorem dX12_init_259 : decode cX12_init 259 = .ok (.newarray .int, 2) := by decide +kernel
theorem dX12_init_261 : decode cX12_init 261 = .ok (.putfield 95, 3) := by decide +kernel
theorem dX12_init_264 : decode cX12_init 264 = .ok (.aload_n 0, 1) := by decide +kernel
theorem dX12_init_265 : decode cX12_init 265 = .ok (.sipush 2001, 3) := by decide +kernel
theorem dX12_init_268 : decode cX12_init 268 = .ok (.newarray .boolean, 2) := by decide +kernel
theorem dX12_init_270 : decode cX12_init 270 = .ok (.putfield 98, 3) := by decide +kernel
theorem dX12_init_273 : decode cX12_init 273 = .ok (.aload_n 0, 1) := by decide +kernel
theorem dX12_init_274 : decode cX12_init 274 = .ok (.sipush 8008, 3) := by decide +kernel
theorem dX12_init_277 : decode cX12_init 277 = .ok (.newarray .int, 2) := by decide +kernel
theorem dX12_init_279 : decode cX12_init 279 = .ok (.putfield 101, 3) := by decide +kernel
theorem dX12_init_282 : decode cX12_init 282 = .ok (.aload_n 0, 1) := by decide +kernel
theorem dX12_init_283 : decode cX12_init 283 = .ok (.sipush 9000, 3) := by decide +kernel
theorem dX12_init_286 : decode cX12_init 286 = .ok (.newarray .int, 2) := by decide +kernel
theorem dX12_init_288 : decode cX12_init 288 = .ok (.putfield 104, 3) := by decide +kernel
theorem dX12_init_291 : decode cX12_init 291 = .ok (.aload_n 0, 1) := by decide +kernel
theorem dX12_init_292 : decode cX12_init 292 = .ok (.sipush 9000, 3) := by decide +kernel
theorem dX12_init_295 : decode cX12_init 295 = .ok (.newarray .int, 2) := by decide +kernel
theorem dX12_init_297 : decode cX12_init 297 = .ok (.putfield 107, 3) := by decide +kernel
theorem dX12_init_300 : decode cX12_init 300 = .ok (.aload_n 0, 1) := by decide +kernel
theorem dX12_init_301 : decode cX12_init 301 = .ok (.sipush 9000, 3) := by decide +kernel
theorem dX12_init_304 : decode cX12_init 304 = .ok (.newarray .int, 2) := by decide +kernel
theorem dX12_init_306 : decode cX12_init 306 = .ok (.putfield 110, 3) := by decide +kernel
theorem dX12_init_309 : decode cX12_init 309 = .ok (.aload_n 0, 1) := by decide +kernel
theorem dX12_init_310 : decode cX12_init 310 = .ok (.sipush 9000, 3) := by decide +kernel
theorem dX12_init_313 : decode cX12_init 313 = .ok (.newarray .int, 2) := by decide +kernel
theorem dX12_init_315 : decode cX12_init 315 = .ok (.putfield 113, 3) := by decide +kernel
theorem dX12_init_318 : decode cX12_init 318 = .ok (.aload_n 0, 1) := by decide +kernel
theorem dX12_init_319 : decode cX12_init 319 = .ok (.sipush 600, 3) := by decide +kernel
theorem dX12_init_322 : decode cX12_init 322 = .ok (.newarray .int, 2) := by decide +kernel
theorem dX12_init_324 : decode cX12_init 324 = .ok (.putfield 116, 3) := by decide +kernel
theorem dX12_init_327 : decode cX12_init 327 = .ok (.aload_n 0, 1) := by decide +kernel
theorem dX12_init_328 : decode cX12_init 328 = .ok (.sipush 600, 3) := by decide +kernel
theorem dX12_init_331 : decode cX12_init 331 = .ok (.newarray .int, 2) := by decide +kernel
theorem dX12_init_333 : decode cX12_init 333 = .ok (.putfield 119, 3) := by decide +kernel
theorem dX12_init_336 : decode cX12_init 336 = .ok (.aload_n 0, 1) := by decide +kernel
theorem dX12_init_337 : decode cX12_init 337 = .ok (.sipush 600, 3) := by decide +kernel
theorem dX12_init_340 : decode cX12_init 340 = .ok (.newarray .int, 2) := by decide +kernel
theorem dX12_init_342 : decode cX12_init 342 = .ok (.putfield 122, 3) := by decide +kernel
theorem dX12_init_345 : decode cX12_init 345 = .ok (.aload_n 0, 1) := by decide +kernel
theorem dX12_init_346 : decode cX12_init 346 = .ok (.ldc 125, 2) := by decide +kernel
theorem dX12_init_348 : decode cX12_init 348 = .ok (.newarray .int, 2) := by decide +kernel
theorem dX12_init_350 : decode cX12_init 350 = .ok (.putfield 126, 3) := by decide +kernel
theorem dX12_init_353 : decode cX12_init 353 = .ok (.aload_n 0, 1) := by decide +kernel
theorem dX12_init_354 : decode cX12_init 354 = .ok (.sipush 500, 3) := by decide +kernel
theorem dX12_init_357 : decode cX12_init 357 = .ok (.newarray .int, 2) := by decide +kernel
theorem dX12_init_359 : decode cX12_init 359 = .ok (.putfield 129, 3) := by decide +kernel
theorem dX12_init_362 : decode cX12_init 362 = .ok (.aload_n 0, 1) := by decide +kernel
theorem dX12_init_363 : decode cX12_init 363 = .ok (.sipush 2000, 3) := by decide +kernel
theorem dX12_init_366 : decode cX12_init 366 = .ok (.newarray .int, 2) := by decide +kernel
theorem dX12_init_368 : decode cX12_init 368 = .ok (.putfield 132, 3) := by decide +kernel
theorem dX12_init_371 : decode cX12_init 371 = .ok (.aload_n 0, 1) := by decide +kernel
theorem dX12_init_372 : decode cX12_init 372 = .ok (.sipush 20000, 3) := by decide +kernel
theorem dX12_init_375 : decode cX12_init 375 = .ok (.newarray .int, 2) := by decide +kernel
theorem dX12_init_377 : decode cX12_init 377 = .ok (.putfield 135, 3) := by decide +kernel
theorem dX12_init_380 : decode cX12_init 380 = .ok (.aload_n 0, 1) := by decide +kernel
theorem dX12_init_381 : decode cX12_init 381 = .ok (.sipush 520, 3) := by decide +kernel
theorem dX12_init_384 : decode cX12_init 384 = .ok (.newarray .int, 2) := by decide +kernel
theorem dX12_init_386 : decode cX12_init 386 = .ok (.putfield 138, 3) := by decide +kernel
theorem dX12_init_389 : decode cX12_init 389 = .ok (.aload_n 0, 1) := by decide +kernel
theorem dX12_init_390 : decode cX12_init 390 = .ok (.sipush 520, 3) := by decide +kernel
theorem dX12_init_393 : decode cX12_init 393 = .ok (.newarray .int, 2) := by decide +kernel
theorem dX12_init_395 : decode cX12_init 395 = .ok (.putfield 141, 3) := by decide +kernel
theorem dX12_init_398 : decode cX12_init 398 = .ok (.aload_n 0, 1) := by decide +kernel
theorem dX12_init_399 : decode cX12_init 399 = .ok (.sipush 520, 3) := by decide +kernel
theorem dX12_init_402 : decode cX12_init 402 = .ok (.newarray .int, 2) := by decide +kernel
theorem dX12_init_404 : decode cX12_init 404 = .ok (.putfield 144, 3) := by decide +kernel
theorem dX12_init_407 : decode cX12_init 407 = .ok (.aload_n 0, 1) := by decide +kernel
theorem dX12_init_408 : decode cX12_init 408 = .ok (.sipush 4096, 3) := by decide +kernel
theorem dX12_init_411 : decode cX12_init 411 = .ok (.newarray .int, 2) := by decide +kernel
theorem dX12_init_413 : decode cX12_init 413 = .ok (.putfield 147, 3) := by decide +kernel
theorem dX12_init_416 : decode cX12_init 416 = .ok (.aload_n 0, 1) := by decide +kernel
theorem dX12_init_417 : decode cX12_init 417 = .ok (.bipush 33, 2) := by decide +kernel
theorem dX12_init_419 : decode cX12_init 419 = .ok (.newarray .int, 2) := by decide +kernel
theorem dX12_init_421 : decode cX12_init 421 = .ok (.putfield 150, 3) := by decide +kernel
theorem dX12_init_424 : decode cX12_init 424 = .ok (.return_, 1) := by decide +kernel
theorem dX12_feed_0 : decode cX12_feed 0 = .ok (.aload_n 0, 1) := by decide +kernel
theorem dX12_feed_1 : decode cX12_feed 1 = .ok (.getfield 153, 3) := by decide +kernel
theorem dX12_feed_4 : decode cX12_feed 4 = .ok (.bipush 20, 2) := by decide +kernel
theorem dX12_feed_6 : decode cX12_feed 6 = .ok (.iadd, 1) := by decide +kernel
theorem dX12_feed_7 : decode cX12_feed 7 = .ok (.sipush 4000, 3) := by decide +kernel
theorem dX12_feed_10 : decode cX12_feed 10 = .ok (.if_icmp .le 5, 3) := by decide +kernel
theorem dX12_feed_13 : decode cX12_feed 13 = .ok (.iconst (-1), 1) := by decide +kernel
theorem dX12_feed_14 : decode cX12_feed 14 = .ok (.ireturn, 1) := by decide +kernel
theorem dX12_feed_15 : decode cX12_feed 15 = .ok (.iconst 0, 1) := by decide +kernel
theorem dX12_feed_16 : decode cX12_feed 16 = .ok (.istore 6, 2) := by decide +kernel
theorem dX12_feed_18 : decode cX12_feed 18 = .ok (.iload 6, 2) := by decide +kernel
theorem dX12_feed_20 : decode cX12_feed 20 = .ok (.bipush 20, 2) := by decide +kernel
theorem dX12_feed_22 : decode cX12_feed 22 = .ok (.if_icmp .ge 86, 3) := by decide +kernel
theorem dX12_feed_25 : decode cX12_feed 25 = .ok (.iload 6, 2) := by decide +kernel
theorem dX12_feed_27 : decode cX12_feed 27 = .ok (.iconst 4, 1) := by decide +kernel
theorem dX12_feed_28 : decode cX12_feed 28 = .ok (.if_icmp .ge 7, 3) := by decide +kernel
theorem dX12_feed_31 : decode cX12_feed 31 = .ok (.iload_n 1, 1) := by decide +kernel
theorem dX12_feed_32 : decode cX12_feed 32 = .ok (.goto 39, 3) := by decide +kernel
theorem dX12_feed_35 : decode cX12_feed 35 = .ok (.iload 6, 2) := by decide +kernel
theorem dX12_feed_37 : decode cX12_feed 37 = .ok (.bipush 8, 2) := by decide +kernel
theorem dX12_feed_39 : decode cX12_feed 39 = .ok (.if_icmp .ge 7, 3) := by decide +kernel
theorem dX12_feed_42 : decode cX12_feed 42 = .ok (.iload_n 2, 1) := by decide +kernel
theorem dX12_feed_43 : decode cX12_feed 43 = .ok (.goto 28, 3) := by decide +kernel
theorem dX12_feed_46 : decode cX12_feed 46 = .ok (.iload 6, 2) := by decide +kernel
theorem dX12_feed_48 : decode cX12_feed 48 = .ok (.bipush 12, 2) := by decide +kernel
theorem dX12_feed_50 : decode cX12_feed 50 = .ok (.if_icmp .ge 7, 3) := by decide +kernel
theorem dX12_feed_53 : decode cX12_feed 53 = .ok (.iload_n 3, 1) := by decide +kernel
theorem dX12_feed_54 : decode cX12_feed 54 = .ok (.goto 17, 3) := by decide +kernel
theorem dX12_feed_57 : decode cX12_feed 57 = .ok (.iload 6, 2) := by decide +kernel
theorem dX12_feed_59 : decode cX12_feed 59 = .ok (.bipush 16, 2) := by decide +kernel
theorem dX12_feed_61 : decode cX12_feed 61 = .ok (.if_icmp .ge 8, 3) := by decide +kernel
theorem dX12_feed_64 : decode cX12_feed 64 = .ok (.iload 4, 2) := by decide +kernel
theorem dX12_feed_66 : decode cX12_feed 66 = .ok (.goto 5, 3) := by decide +kernel
theorem dX12_feed_69 : decode cX12_feed 69 = .ok (.iload 5, 2) := by decide +kernel
theorem dX12_feed_71 : decode cX12_feed 71 = .ok (.istore 7, 2) := by decide +kernel
theorem dX12_feed_73 : decode cX12_feed 73 = .ok (.aload_n 0, 1) := by decide +kernel
theorem dX12_feed_74 : decode cX12_feed 74 = .ok (.getfield 9, 3) := by decide +kernel
theorem dX12_feed_77 : decode cX12_feed 77 = .ok (.aload_n 0, 1) := by decide +kernel
theorem dX12_feed_78 : decode cX12_feed 78 = .ok (.getfield 153, 3) := by decide +kernel
theorem dX12_feed_81 : decode cX12_feed 81 = .ok (.iload 6, 2) := by decide +kernel
theorem dX12_feed_83 : decode cX12_feed 83 = .ok (.iadd, 1) := by decide +kernel
theorem dX12_feed_84 : decode cX12_feed 84 = .ok (.iload 7, 2) := by decide +kernel
theorem dX12_feed_86 : decode cX12_feed 86 = .ok (.bipush 24, 2) := by decide +kernel
theorem dX12_feed_88 : decode cX12_feed 88 = .ok (.bipush 8, 2) := by decide +kernel
theorem dX12_feed_90 : decode cX12_feed 90 = .ok (.iload 6, 2) := by decide +kernel
theorem dX12_feed_92 : decode cX12_feed 92 = .ok (.iconst 4, 1) := by decide +kernel
theorem dX12_feed_93 : decode cX12_feed 93 = .ok (.irem, 1) := by decide +kernel
theorem dX12_feed_94 : decode cX12_feed 94 = .ok (.imul, 1) := by decide +kernel
theorem dX12_feed_95 : decode cX12_feed 95 = .ok (.isub, 1) := by decide +kernel
theorem dX12_feed_96 : decode cX12_feed 96 = .ok (.ishr, 1) := by decide +kernel
theorem dX12_feed_97 : decode cX12_feed 97 = .ok (.sipush 255, 3) := by decide +kernel
theorem dX12_feed_100 : decode cX12_feed 100 = .ok (.iand, 1) := by decide +kernel
theorem dX12_feed_101 : decode cX12_feed 101 = .ok (.iastore, 1) := by decide +kernel
theorem dX12_feed_102 : decode cX12_feed 102 = .ok (.iinc 6 1, 3) := by decide +kernel
theorem dX12_feed_105 : decode cX12_feed 105 = .ok (.goto (-87), 3) := by decide +kernel
theorem dX12_feed_108 : decode cX12_feed 108 = .ok (.aload_n 0, 1) := by decide +kernel
theorem dX12_feed_109 : decode cX12_feed 109 = .ok (.dup, 1) := by decide +kernel
theorem dX12_feed_110 : decode cX12_feed 110 = .ok (.getfield 153, 3) := by decide +kernel
theorem dX12_feed_113 : decode cX12_feed 113 = .ok (.bipush 20, 2) := by decide +kernel
theorem dX12_feed_115 : decode cX12_feed 115 = .ok (.iadd, 1) := by decide +kernel
theorem dX12_feed_116 : decode cX12_feed 116 = .ok (.putfield 153, 3) := by decide +kernel
theorem dX12_feed_119 : decode cX12_feed 119 = .ok (.aload_n 0, 1) := by decide +kernel
theorem dX12_feed_120 : decode cX12_feed 120 = .ok (.getfield 153, 3) := by decide +kernel
theorem dX12_feed_123 : decode cX12_feed 123 = .ok (.ireturn, 1) := by decide +kernel
theorem dX12_end_0 : decode cX12_end 0 = .ok (.iload_n 1, 1) := by decide +kernel
theorem dX12_end_1 : decode cX12_end 1 = .ok (.ifCond .lt 11, 3) := by decide +kernel
theorem dX12_end_4 : decode cX12_end 4 = .ok (.iload_n 1, 1) := by decide +kernel
theorem dX12_end_5 : decode cX12_end 5 = .ok (.aload_n 0, 1) := by decide +kernel
theorem dX12_end_6 : decode cX12_end 6 = .ok (.getfield 153, 3) := by decide +kernel
theorem dX12_end_9 : decode cX12_end 9 = .ok (.if_icmp .le 5, 3) := by decide +kernel
theorem dX12_end_12 : decode cX12_end 12 = .ok (.iconst (-1), 1) := by decide +kernel
theorem dX12_end_13 : decode cX12_end 13 = .ok (.ireturn, 1) := by decide +kernel
theorem dX12_end_14 : decode cX12_end 14 = .ok (.aload_n 0, 1) := by decide +kernel
theorem dX12_end_15 : decode cX12_end 15 = .ok (.iload_n 1, 1) := by decide +kernel
theorem dX12_end_16 : decode cX12_end 16 = .ok (.putfield 153, 3) := by decide +kernel
theorem dX12_end_19 : decode cX12_end 19 = .ok (.iload_n 1, 1) := by decide +kernel
theorem dX12_end_20 : decode cX12_end 20 = .ok (.ireturn, 1) := by decide +kernel
theorem dX12_at_0 : decode cX12_at 0 = .ok (.iload_n 1, 1) := by decide +kernel
theorem dX12_at_1 : decode cX12_at 1 = .ok (.aload_n 0, 1) := by decide +kernel
theorem dX12_at_2 : decode cX12_at 2 = .ok (.getfield 157, 3) := by decide +kernel
theorem dX12_at_5 : decode cX12_at 5 = .ok (.if_icmp .ge 12, 3) := by decide +kernel
theorem dX12_at_8 : decode cX12_at 8 = .ok (.aload_n 0, 1) := by decide +kernel
theorem dX12_at_9 : decode cX12_at 9 = .ok (.getfield 13, 3) := by decide +kernel
theorem dX12_at_12 : decode cX12_at 12 = .ok (.iload_n 1, 1) := by decide +kernel
theorem dX12_at_13 : decode cX12_at 13 = .ok (.iaload, 1) := by decide +kernel
theorem dX12_at_14 : decode cX12_at 14 = .ok (.goto 4, 3) := by decide +kernel
theorem dX12_at_17 : decode cX12_at 17 = .ok (.iconst 0, 1) := by decide +kernel
theorem dX12_at_18 : decode cX12_at 18 = .ok (.ireturn, 1) := by decide +kernel
theorem dX12_isLetter_0 : decode cX12_isLetter 0 = .ok (.iload_n 0, 1) := by decide +kernel
theorem dX12_isLetter_1 : decode cX12_isLetter 1 = .ok (.bipush 97, 2) := by decide +kernel
theorem dX12_isLetter_3 : decode cX12_isLetter 3 = .ok (.if_icmp .lt 9, 3) := by decide +kernel
theorem dX12_isLetter_6 : decode cX12_isLetter 6 = .ok (.iload_n 0, 1) := by decide +kernel
theorem dX12_isLetter_7 : decode cX12_isLetter 7 = .ok (.bipush 122, 2) := by decide +kernel
theorem dX12_isLetter_9 : decode cX12_isLetter 9 = .ok (.if_icmp .le 21, 3) := by decide +kernel
theorem dX12_isLetter_12 : decode cX12_isLetter 12 = .ok (.iload_n 0, 1) := by decide +kernel
theorem dX12_isLetter_13 : decode cX12_isLetter 13 = .ok (.bipush 65, 2) := by decide +kernel
theorem dX12_isLetter_15 : decode cX12_isLetter 15 = .ok (.if_icmp .lt 9, 3) := by decide +kernel
theorem dX12_isLetter_18 : decode cX12_isLetter 18 = .ok (.iload_n 0, 1) := by decide +kernel
theorem dX12_isLetter_19 : decode cX12_isLetter 19 = .ok (.bipush 90, 2) := by decide +kernel
theorem dX12_isLetter_21 : decode cX12_isLetter 21 = .ok (.if_icmp .le 9, 3) := by decide +kernel
theorem dX12_isLetter_24 : decode cX12_isLetter 24 = .ok (.iload_n 0, 1) := by decide +kernel
theorem dX12_isLetter_25 : decode cX12_isLetter 25 = .ok (.bipush 95, 2) := by decide +kernel
theorem dX12_isLetter_27 : decode cX12_isLetter 27 = .ok (.if_icmp .ne 7, 3) := by decide +kernel
theorem dX12_isLetter_30 : decode cX12_isLetter 30 = .ok (.iconst 1, 1) := by decide +kernel
theorem dX12_isLetter_31 : decode cX12_isLetter 31 = .ok (.goto 4, 3) := by decide +kernel
theorem dX12_isLetter_34 : decode cX12_isLetter 34 = .ok (.iconst 0, 1) := by decide +kernel
theorem dX12_isLetter_35 : decode cX12_isLetter 35 = .ok (.ireturn, 1) := by decide +kernel
theorem dX12_isDigit_0 : decode cX12_isDigit 0 = .ok (.iload_n 0, 1) := by decide +kernel
theorem dX12_isDigit_1 : decode cX12_isDigit 1 = .ok (.bipush 48, 2) := by decide +kernel
theorem dX12_isDigit_3 : decode cX12_isDigit 3 = .ok (.if_icmp .lt 13, 3) := by decide +kernel
theorem dX12_isDigit_6 : decode cX12_isDigit 6 = .ok (.iload_n 0, 1) := by decide +kernel
theorem dX12_isDigit_7 : decode cX12_isDigit 7 = .ok (.bipush 57, 2) := by decide +kernel
theorem dX12_isDigit_9 : decode cX12_isDigit 9 = .ok (.if_icmp .gt 7, 3) := by decide +kernel
theorem dX12_isDigit_12 : decode cX12_isDigit 12 = .ok (.iconst 1, 1) := by decide +kernel
theorem dX12_isDigit_13 : decode cX12_isDigit 13 = .ok (.goto 4, 3) := by decide +kernel
theorem dX12_isDigit_16 : decode cX12_isDigit 16 = .ok (.iconst 0, 1) := by decide +kernel
theorem dX12_isDigit_17 : decode cX12_isDigit 17 = .ok (.ireturn, 1) := by decide +kernel
theorem dX12_isInner_0 : decode cX12_isInner 0 = .ok (.iload_n 0, 1) := by decide +kernel
theorem dX12_isInner_1 : decode cX12_isInner 1 = .ok (.invokestatic 160, 3) := by decide +kernel
theorem dX12_isInner_4 : decode cX12_isInner 4 = .ok (.ifCond .ne 10, 3) := by decide +kernel
theorem dX12_isInner_7 : decode cX12_isInner 7 = .ok (.iload_n 0, 1) := by decide +kernel
theorem dX12_isInner_8 : decode cX12_isInner 8 = .ok (.invokestatic 164, 3) := by decide +kernel
theorem dX12_isInner_11 : decode cX12_isInner 11 = .ok (.ifCond .eq 7, 3) := by decide +kernel
theorem dX12_isInner_14 : decode cX12_isInner 14 = .ok (.iconst 1, 1) := by decide +kernel
theorem dX12_isInner_15 : decode cX12_isInner 15 = .ok (.goto 4, 3) := by decide +kernel
theorem dX12_isInner_18 : decode cX12_isInner 18 = .ok (.iconst 0, 1) := by decide +kernel
theorem dX12_isInner_19 : decode cX12_isInner 19 = .ok (.ireturn, 1) := by decide +kernel
theorem dX12_hex_0 : decode cX12_hex 0 = .ok (.iload_n 0, 1) := by decide +kernel
theorem dX12_hex_1 : decode cX12_hex 1 = .ok (.invokestatic 164, 3) := by decide +kernel
theorem dX12_hex_4 : decode cX12_hex 4 = .ok (.ifCond .eq 10, 3) := by decide +kernel
theorem dX12_hex_7 : decode cX12_hex 7 = .ok (.iload_n 0, 1) := by decide +kernel
theorem dX12_hex_8 : decode cX12_hex 8 = .ok (.bipush 48, 2) := by decide +kernel
theorem dX12_hex_10 : decode cX12_hex 10 = .ok (.isub, 1) := by decide +kernel
theorem dX12_hex_11 : decode cX12_hex 11 = .ok (.goto 49, 3) := by decide +kernel
theorem dX12_hex_14 : decode cX12_hex 14 = .ok (.iload_n 0, 1) := by decide +kernel
theorem dX12_hex_15 : decode cX12_hex 15 = .ok (.bipush 97, 2) := by decide +kernel
theorem dX12_hex_17 : decode cX12_hex 17 = .ok (.if_icmp .lt 19, 3) := by decide +kernel
theorem dX12_hex_20 : decode cX12_hex 20 = .ok (.iload_n 0, 1) := by decide +kernel
theorem dX12_hex_21 : decode cX12_hex 21 = .ok (.bipush 102, 2) := by decide +kernel
theorem dX12_hex_23 : decode cX12_hex 23 = .ok (.if_icmp .gt 13, 3) := by decide +kernel
theorem dX12_hex_26 : decode cX12_hex 26 = .ok (.iload_n 0, 1) := by decide +kernel
theorem dX12_hex_27 : decode cX12_hex 27 = .ok (.bipush 97, 2) := by decide +kernel
theorem dX12_hex_29 : decode cX12_hex 29 = .ok (.isub, 1) := by decide +kernel
theorem dX12_hex_30 : decode cX12_hex 30 = .ok (.bipush 10, 2) := by decide +kernel
theorem dX12_hex_32 : decode cX12_hex 32 = .ok (.iadd, 1) := by decide +kernel
theorem dX12_hex_33 : decode cX12_hex 33 = .ok (.goto 27, 3) := by decide +kernel
theorem dX12_hex_36 : decode cX12_hex 36 = .ok (.iload_n 0, 1) := by decide +kernel
theorem dX12_hex_37 : decode cX12_hex 37 = .ok (.bipush 65, 2) := by decide +kernel
theorem dX12_hex_39 : decode cX12_hex 39 = .ok (.if_icmp .lt 19, 3) := by decide +kernel
theorem dX12_hex_42 : decode cX12_hex 42 = .ok (.iload_n 0, 1) := by decide +kernel
theorem dX12_hex_43 : decode cX12_hex 43 = .ok (.bipush 70, 2) := by decide +kernel
theorem dX12_hex_45 : decode cX12_hex 45 = .ok (.if_icmp .gt 13, 3) := by decide +kernel
theorem dX12_hex_48 : decode cX12_hex 48 = .ok (.iload_n 0, 1) := by decide +kernel
theorem dX12_hex_49 : decode cX12_hex 49 = .ok (.bipush 65, 2) := by decide +kernel
theorem dX12_hex_51 : decode cX12_hex 51 = .ok (.isub, 1) := by decide +kernel
theorem dX12_hex_52 : decode cX12_hex 52 = .ok (.bipush 10, 2) := by decide +kernel
theorem dX12_hex_54 : decode cX12_hex 54 = .ok (.iadd, 1) := by decide +kernel
theorem dX12_hex_55 : decode cX12_hex 55 = .ok (.goto 5, 3) := by decide +kernel
theorem dX12_hex_58 : decode cX12_hex 58 = .ok (.bipush 99, 2) := by decide +kernel
theorem dX12_hex_60 : decode cX12_hex 60 = .ok (.ireturn, 1) := by decide +kernel
theorem dX12_placeIn_0 : decode cX12_placeIn 0 = .ok (.iconst 1, 1) := by decide +kernel
theorem dX12_placeIn_1 : decode cX12_placeIn 1 = .ok (.istore 4, 2) := by decide +kernel
theorem dX12_placeIn_3 : decode cX12_placeIn 3 = .ok (.iconst 0, 1) := by decide +kernel
theorem dX12_placeIn_4 : decode cX12_placeIn 4 = .ok (.istore 5, 2) := by decide +kernel
theorem dX12_placeIn_6 : decode cX12_placeIn 6 = .ok (.iload 4, 2) := by decide +kernel
theorem dX12_placeIn_8 : decode cX12_placeIn 8 = .ok (.aload_n 1, 1) := by decide +kernel
theorem dX12_placeIn_9 : decode cX12_placeIn 9 = .ok (.invokevirtual 167, 3) := by decide +kernel
theorem dX12_placeIn_12 : decode cX12_placeIn 12 = .ok (.if_icmp .ge 101, 3) := by decide +kernel
theorem dX12_placeIn_15 : decode cX12_placeIn 15 = .ok (.iconst 0, 1) := by decide +kernel
theorem dX12_placeIn_16 : decode cX12_placeIn 16 = .ok (.istore 6, 2) := by decide +kernel
theorem dX12_placeIn_18 : decode cX12_placeIn 18 = .ok (.aload_n 1, 1) := by decide +kernel
theorem dX12_placeIn_19 : decode cX12_placeIn 19 = .ok (.iload 4, 2) := by decide +kernel
theorem dX12_placeIn_21 : decode cX12_placeIn 21 = .ok (.iload 6, 2) := by decide +kernel
theorem dX12_placeIn_23 : decode cX12_placeIn 23 = .ok (.iadd, 1) := by decide +kernel
theorem dX12_placeIn_24 : decode cX12_placeIn 24 = .ok (.invokevirtual 173, 3) := by decide +kernel
theorem dX12_placeIn_27 : decode cX12_placeIn 27 = .ok (.bipush 32, 2) := by decide +kernel
theorem dX12_placeIn_29 : decode cX12_placeIn 29 = .ok (.if_icmp .eq 35, 3) := by decide +kernel
theorem dX12_placeIn_32 : decode cX12_placeIn 32 = .ok (.iload 6, 2) := by decide +kernel
theorem dX12_placeIn_34 : decode cX12_placeIn 34 = .ok (.iload_n 3, 1) := by decide +kernel
theorem dX12_placeIn_35 : decode cX12_placeIn 35 = .ok (.if_icmp .ge 29, 3) := by decide +kernel
