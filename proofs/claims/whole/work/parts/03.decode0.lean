theorem dX0_init_0 : decode cX0_init 0 = .ok (.aload_n 0, 1) := by decide +kernel
theorem dX0_init_1 : decode cX0_init 1 = .ok (.invokespecial 1, 3) := by decide +kernel
theorem dX0_init_4 : decode cX0_init 4 = .ok (.aload_n 0, 1) := by decide +kernel
theorem dX0_init_5 : decode cX0_init 5 = .ok (.bipush 8, 2) := by decide +kernel
theorem dX0_init_7 : decode cX0_init 7 = .ok (.newarray .int, 2) := by decide +kernel
theorem dX0_init_9 : decode cX0_init 9 = .ok (.putfield 7, 3) := by decide +kernel
theorem dX0_init_12 : decode cX0_init 12 = .ok (.return_, 1) := by decide +kernel
theorem dX0_ask_0 : decode cX0_ask 0 = .ok (.aload_n 0, 1) := by decide +kernel
theorem dX0_ask_1 : decode cX0_ask 1 = .ok (.iconst 0, 1) := by decide +kernel
theorem dX0_ask_2 : decode cX0_ask 2 = .ok (.iconst 0, 1) := by decide +kernel
theorem dX0_ask_3 : decode cX0_ask 3 = .ok (.iconst 0, 1) := by decide +kernel
theorem dX0_ask_4 : decode cX0_ask 4 = .ok (.invokevirtual 13, 3) := by decide +kernel
theorem dX0_ask_7 : decode cX0_ask 7 = .ok (.aload_n 0, 1) := by decide +kernel
theorem dX0_ask_8 : decode cX0_ask 8 = .ok (.aload_n 1, 1) := by decide +kernel
theorem dX0_ask_9 : decode cX0_ask 9 = .ok (.getfield 17, 3) := by decide +kernel
theorem dX0_ask_12 : decode cX0_ask 12 = .ok (.aload_n 1, 1) := by decide +kernel
theorem dX0_ask_13 : decode cX0_ask 13 = .ok (.getfield 23, 3) := by decide +kernel
theorem dX0_ask_16 : decode cX0_ask 16 = .ok (.invokevirtual 26, 3) := by decide +kernel
theorem dX0_ask_19 : decode cX0_ask 19 = .ok (.aload_n 0, 1) := by decide +kernel
theorem dX0_ask_20 : decode cX0_ask 20 = .ok (.aload_n 1, 1) := by decide +kernel
theorem dX0_ask_21 : decode cX0_ask 21 = .ok (.getfield 30, 3) := by decide +kernel
theorem dX0_ask_24 : decode cX0_ask 24 = .ok (.invokevirtual 33, 3) := by decide +kernel
theorem dX0_ask_27 : decode cX0_ask 27 = .ok (.aload_n 0, 1) := by decide +kernel
theorem dX0_ask_28 : decode cX0_ask 28 = .ok (.getfield 7, 3) := by decide +kernel
theorem dX0_ask_31 : decode cX0_ask 31 = .ok (.iconst 4, 1) := by decide +kernel
theorem dX0_ask_32 : decode cX0_ask 32 = .ok (.aload_n 1, 1) := by decide +kernel
theorem dX0_ask_33 : decode cX0_ask 33 = .ok (.getfield 37, 3) := by decide +kernel
theorem dX0_ask_36 : decode cX0_ask 36 = .ok (.iastore, 1) := by decide +kernel
theorem dX0_ask_37 : decode cX0_ask 37 = .ok (.aload_n 0, 1) := by decide +kernel
theorem dX0_ask_38 : decode cX0_ask 38 = .ok (.getfield 7, 3) := by decide +kernel
theorem dX0_ask_41 : decode cX0_ask 41 = .ok (.bipush 7, 2) := by decide +kernel
theorem dX0_ask_43 : decode cX0_ask 43 = .ok (.iload_n 2, 1) := by decide +kernel
theorem dX0_ask_44 : decode cX0_ask 44 = .ok (.iastore, 1) := by decide +kernel
theorem dX0_ask_45 : decode cX0_ask 45 = .ok (.return_, 1) := by decide +kernel
theorem dX0_askThrow_0 : decode cX0_askThrow 0 = .ok (.aload_n 0, 1) := by decide +kernel
theorem dX0_askThrow_1 : decode cX0_askThrow 1 = .ok (.getfield 7, 3) := by decide +kernel
theorem dX0_askThrow_4 : decode cX0_askThrow 4 = .ok (.iconst 0, 1) := by decide +kernel
theorem dX0_askThrow_5 : decode cX0_askThrow 5 = .ok (.iload_n 1, 1) := by decide +kernel
theorem dX0_askThrow_6 : decode cX0_askThrow 6 = .ok (.iastore, 1) := by decide +kernel
theorem dX0_askThrow_7 : decode cX0_askThrow 7 = .ok (.aload_n 0, 1) := by decide +kernel
theorem dX0_askThrow_8 : decode cX0_askThrow 8 = .ok (.getfield 7, 3) := by decide +kernel
theorem dX0_askThrow_11 : decode cX0_askThrow 11 = .ok (.iconst 1, 1) := by decide +kernel
theorem dX0_askThrow_12 : decode cX0_askThrow 12 = .ok (.iload_n 2, 1) := by decide +kernel
theorem dX0_askThrow_13 : decode cX0_askThrow 13 = .ok (.iastore, 1) := by decide +kernel
theorem dX0_askThrow_14 : decode cX0_askThrow 14 = .ok (.aload_n 0, 1) := by decide +kernel
theorem dX0_askThrow_15 : decode cX0_askThrow 15 = .ok (.getfield 7, 3) := by decide +kernel
theorem dX0_askThrow_18 : decode cX0_askThrow 18 = .ok (.iconst 2, 1) := by decide +kernel
theorem dX0_askThrow_19 : decode cX0_askThrow 19 = .ok (.iload_n 3, 1) := by decide +kernel
theorem dX0_askThrow_20 : decode cX0_askThrow 20 = .ok (.iastore, 1) := by decide +kernel
theorem dX0_askThrow_21 : decode cX0_askThrow 21 = .ok (.return_, 1) := by decide +kernel
theorem dX0_askState_0 : decode cX0_askState 0 = .ok (.aload_n 0, 1) := by decide +kernel
theorem dX0_askState_1 : decode cX0_askState 1 = .ok (.getfield 7, 3) := by decide +kernel
theorem dX0_askState_4 : decode cX0_askState 4 = .ok (.iconst 3, 1) := by decide +kernel
theorem dX0_askState_5 : decode cX0_askState 5 = .ok (.iload_n 1, 1) := by decide +kernel
theorem dX0_askState_6 : decode cX0_askState 6 = .ok (.iastore, 1) := by decide +kernel
theorem dX0_askState_7 : decode cX0_askState 7 = .ok (.aload_n 0, 1) := by decide +kernel
theorem dX0_askState_8 : decode cX0_askState 8 = .ok (.getfield 7, 3) := by decide +kernel
theorem dX0_askState_11 : decode cX0_askState 11 = .ok (.iconst 5, 1) := by decide +kernel
theorem dX0_askState_12 : decode cX0_askState 12 = .ok (.iload_n 2, 1) := by decide +kernel
theorem dX0_askState_13 : decode cX0_askState 13 = .ok (.iastore, 1) := by decide +kernel
theorem dX0_askState_14 : decode cX0_askState 14 = .ok (.return_, 1) := by decide +kernel
theorem dX0_askBest_0 : decode cX0_askBest 0 = .ok (.aload_n 0, 1) := by decide +kernel
theorem dX0_askBest_1 : decode cX0_askBest 1 = .ok (.getfield 7, 3) := by decide +kernel
theorem dX0_askBest_4 : decode cX0_askBest 4 = .ok (.bipush 6, 2) := by decide +kernel
theorem dX0_askBest_6 : decode cX0_askBest 6 = .ok (.iload_n 1, 1) := by decide +kernel
theorem dX0_askBest_7 : decode cX0_askBest 7 = .ok (.bipush 100, 2) := by decide +kernel
theorem dX0_askBest_9 : decode cX0_askBest 9 = .ok (.idiv, 1) := by decide +kernel
theorem dX0_askBest_10 : decode cX0_askBest 10 = .ok (.iastore, 1) := by decide +kernel
theorem dX0_askBest_11 : decode cX0_askBest 11 = .ok (.return_, 1) := by decide +kernel
theorem dX0_tell_0 : decode cX0_tell 0 = .ok (.aload_n 1, 1) := by decide +kernel
theorem dX0_tell_1 : decode cX0_tell 1 = .ok (.iload_n 2, 1) := by decide +kernel
theorem dX0_tell_2 : decode cX0_tell 2 = .ok (.aload_n 0, 1) := by decide +kernel
theorem dX0_tell_3 : decode cX0_tell 3 = .ok (.getfield 7, 3) := by decide +kernel
theorem dX0_tell_6 : decode cX0_tell 6 = .ok (.invokevirtual 40, 3) := by decide +kernel
theorem dX0_tell_9 : decode cX0_tell 9 = .ok (.iconst 0, 1) := by decide +kernel
theorem dX0_tell_10 : decode cX0_tell 10 = .ok (.sipush 1000, 3) := by decide +kernel
theorem dX0_tell_13 : decode cX0_tell 13 = .ok (.invokestatic 46, 3) := by decide +kernel
theorem dX0_tell_16 : decode cX0_tell 16 = .ok (.ireturn, 1) := by decide +kernel
theorem dX1_init_0 : decode cX1_init 0 = .ok (.aload_n 0, 1) := by decide +kernel
theorem dX1_init_1 : decode cX1_init 1 = .ok (.invokespecial 3, 3) := by decide +kernel
theorem dX1_init_4 : decode cX1_init 4 = .ok (.aload_n 0, 1) := by decide +kernel
theorem dX1_init_5 : decode cX1_init 5 = .ok (.bipush 10, 2) := by decide +kernel
theorem dX1_init_7 : decode cX1_init 7 = .ok (.newarray .boolean, 2) := by decide +kernel
theorem dX1_init_9 : decode cX1_init 9 = .ok (.putfield 11, 3) := by decide +kernel
theorem dX1_init_12 : decode cX1_init 12 = .ok (.aload_n 0, 1) := by decide +kernel
theorem dX1_init_13 : decode cX1_init 13 = .ok (.new 15, 3) := by decide +kernel
theorem dX1_init_16 : decode cX1_init 16 = .ok (.dup, 1) := by decide +kernel
theorem dX1_init_17 : decode cX1_init 17 = .ok (.invokespecial 17, 3) := by decide +kernel
theorem dX1_init_20 : decode cX1_init 20 = .ok (.putfield 18, 3) := by decide +kernel
theorem dX1_init_23 : decode cX1_init 23 = .ok (.aload_n 0, 1) := by decide +kernel
theorem dX1_init_24 : decode cX1_init 24 = .ok (.bipush 7, 2) := by decide +kernel
theorem dX1_init_26 : decode cX1_init 26 = .ok (.sipush 1000, 3) := by decide +kernel
theorem dX1_init_29 : decode cX1_init 29 = .ok (.multianewarray 24 2, 4) := by decide +kernel
theorem dX1_init_33 : decode cX1_init 33 = .ok (.putfield 26, 3) := by decide +kernel
theorem dX1_init_36 : decode cX1_init 36 = .ok (.return_, 1) := by decide +kernel
theorem dX1_choice_0 : decode cX1_choice 0 = .ok (.bipush 54, 2) := by decide +kernel
theorem dX1_choice_2 : decode cX1_choice 2 = .ok (.iconst 5, 1) := by decide +kernel
theorem dX1_choice_3 : decode cX1_choice 3 = .ok (.iload_n 0, 1) := by decide +kernel
theorem dX1_choice_4 : decode cX1_choice 4 = .ok (.imul, 1) := by decide +kernel
theorem dX1_choice_5 : decode cX1_choice 5 = .ok (.iadd, 1) := by decide +kernel
theorem dX1_choice_6 : decode cX1_choice 6 = .ok (.ireturn, 1) := by decide +kernel
theorem dX1_upTo_0 : decode cX1_upTo 0 = .ok (.iconst 0, 1) := by decide +kernel
theorem dX1_upTo_1 : decode cX1_upTo 1 = .ok (.istore_n 1, 1) := by decide +kernel
theorem dX1_upTo_2 : decode cX1_upTo 2 = .ok (.iload_n 1, 1) := by decide +kernel
theorem dX1_upTo_3 : decode cX1_upTo 3 = .ok (.bipush 10, 2) := by decide +kernel
theorem dX1_upTo_5 : decode cX1_upTo 5 = .ok (.if_icmp .ge 17, 3) := by decide +kernel
theorem dX1_upTo_8 : decode cX1_upTo 8 = .ok (.iload_n 1, 1) := by decide +kernel
theorem dX1_upTo_9 : decode cX1_upTo 9 = .ok (.invokestatic 29, 3) := by decide +kernel
theorem dX1_upTo_12 : decode cX1_upTo 12 = .ok (.iload_n 0, 1) := by decide +kernel
theorem dX1_upTo_13 : decode cX1_upTo 13 = .ok (.if_icmp .gt 9, 3) := by decide +kernel
theorem dX1_upTo_16 : decode cX1_upTo 16 = .ok (.iinc 1 1, 3) := by decide +kernel
theorem dX1_upTo_19 : decode cX1_upTo 19 = .ok (.goto (-17), 3) := by decide +kernel
theorem dX1_upTo_22 : decode cX1_upTo 22 = .ok (.iload_n 1, 1) := by decide +kernel
theorem dX1_upTo_23 : decode cX1_upTo 23 = .ok (.ireturn, 1) := by decide +kernel
theorem dX1_weigh_0 : decode cX1_weigh 0 = .ok (.aload_n 0, 1) := by decide +kernel
theorem dX1_weigh_1 : decode cX1_weigh 1 = .ok (.aload_n 1, 1) := by decide +kernel
theorem dX1_weigh_2 : decode cX1_weigh 2 = .ok (.getfield 33, 3) := by decide +kernel
theorem dX1_weigh_5 : decode cX1_weigh 5 = .ok (.putfield 36, 3) := by decide +kernel
theorem dX1_weigh_8 : decode cX1_weigh 8 = .ok (.aload_n 0, 1) := by decide +kernel
theorem dX1_weigh_9 : decode cX1_weigh 9 = .ok (.iload 4, 2) := by decide +kernel
theorem dX1_weigh_11 : decode cX1_weigh 11 = .ok (.putfield 39, 3) := by decide +kernel
theorem dX1_weigh_14 : decode cX1_weigh 14 = .ok (.aload_n 0, 1) := by decide +kernel
theorem dX1_weigh_15 : decode cX1_weigh 15 = .ok (.aload_n 2, 1) := by decide +kernel
theorem dX1_weigh_16 : decode cX1_weigh 16 = .ok (.getfield 43, 3) := by decide +kernel
theorem dX1_weigh_19 : decode cX1_weigh 19 = .ok (.invokestatic 48, 3) := by decide +kernel
theorem dX1_weigh_22 : decode cX1_weigh 22 = .ok (.putfield 51, 3) := by decide +kernel
theorem dX1_weigh_25 : decode cX1_weigh 25 = .ok (.aload_n 0, 1) := by decide +kernel
theorem dX1_weigh_26 : decode cX1_weigh 26 = .ok (.aload_n 2, 1) := by decide +kernel
theorem dX1_weigh_27 : decode cX1_weigh 27 = .ok (.getfield 54, 3) := by decide +kernel
theorem dX1_weigh_30 : decode cX1_weigh 30 = .ok (.iload_n 3, 1) := by decide +kernel
theorem dX1_weigh_31 : decode cX1_weigh 31 = .ok (.iadd, 1) := by decide +kernel
theorem dX1_weigh_32 : decode cX1_weigh 32 = .ok (.putfield 57, 3) := by decide +kernel
theorem dX1_weigh_35 : decode cX1_weigh 35 = .ok (.aload_n 0, 1) := by decide +kernel
theorem dX1_weigh_36 : decode cX1_weigh 36 = .ok (.getfield 18, 3) := by decide +kernel
theorem dX1_weigh_39 : decode cX1_weigh 39 = .ok (.aload_n 2, 1) := by decide +kernel
theorem dX1_weigh_40 : decode cX1_weigh 40 = .ok (.aload_n 1, 1) := by decide +kernel
theorem dX1_weigh_41 : decode cX1_weigh 41 = .ok (.getfield 58, 3) := by decide +kernel
theorem dX1_weigh_44 : decode cX1_weigh 44 = .ok (.invokevirtual 61, 3) := by decide +kernel
theorem dX1_weigh_47 : decode cX1_weigh 47 = .ok (.iconst 0, 1) := by decide +kernel
theorem dX1_weigh_48 : decode cX1_weigh 48 = .ok (.istore 5, 2) := by decide +kernel
theorem dX1_weigh_50 : decode cX1_weigh 50 = .ok (.iload 5, 2) := by decide +kernel
theorem dX1_weigh_52 : decode cX1_weigh 52 = .ok (.iload_n 3, 1) := by decide +kernel
theorem dX1_weigh_53 : decode cX1_weigh 53 = .ok (.if_icmp .gt 30, 3) := by decide +kernel
theorem dX1_weigh_56 : decode cX1_weigh 56 = .ok (.iload 5, 2) := by decide +kernel
theorem dX1_weigh_58 : decode cX1_weigh 58 = .ok (.aload_n 0, 1) := by decide +kernel
theorem dX1_weigh_59 : decode cX1_weigh 59 = .ok (.getfield 26, 3) := by decide +kernel
theorem dX1_weigh_62 : decode cX1_weigh 62 = .ok (.arraylength, 1) := by decide +kernel
theorem dX1_weigh_63 : decode cX1_weigh 63 = .ok (.if_icmp .ge 20, 3) := by decide +kernel
theorem dX1_weigh_66 : decode cX1_weigh 66 = .ok (.aload_n 0, 1) := by decide +kernel
theorem dX1_weigh_67 : decode cX1_weigh 67 = .ok (.getfield 26, 3) := by decide +kernel
theorem dX1_weigh_70 : decode cX1_weigh 70 = .ok (.iload 5, 2) := by decide +kernel
theorem dX1_weigh_72 : decode cX1_weigh 72 = .ok (.aaload, 1) := by decide +kernel
theorem dX1_weigh_73 : decode cX1_weigh 73 = .ok (.iconst (-1), 1) := by decide +kernel
theorem dX1_weigh_74 : decode cX1_weigh 74 = .ok (.invokestatic 65, 3) := by decide +kernel
theorem dX1_weigh_77 : decode cX1_weigh 77 = .ok (.iinc 5 1, 3) := by decide +kernel
theorem dX1_weigh_80 : decode cX1_weigh 80 = .ok (.goto (-30), 3) := by decide +kernel
theorem dX1_weigh_83 : decode cX1_weigh 83 = .ok (.aload_n 0, 1) := by decide +kernel
theorem dX1_weigh_84 : decode cX1_weigh 84 = .ok (.iconst 0, 1) := by decide +kernel
theorem dX1_weigh_85 : decode cX1_weigh 85 = .ok (.putfield 71, 3) := by decide +kernel
theorem dX1_weigh_88 : decode cX1_weigh 88 = .ok (.aload_n 0, 1) := by decide +kernel
theorem dX1_weigh_89 : decode cX1_weigh 89 = .ok (.iconst 0, 1) := by decide +kernel
theorem dX1_weigh_90 : decode cX1_weigh 90 = .ok (.putfield 74, 3) := by decide +kernel
theorem dX1_weigh_93 : decode cX1_weigh 93 = .ok (.iconst 0, 1) := by decide +kernel
theorem dX1_weigh_94 : decode cX1_weigh 94 = .ok (.istore 5, 2) := by decide +kernel
theorem dX1_weigh_96 : decode cX1_weigh 96 = .ok (.iload 5, 2) := by decide +kernel
theorem dX1_weigh_98 : decode cX1_weigh 98 = .ok (.aload_n 0, 1) := by decide +kernel
theorem dX1_weigh_99 : decode cX1_weigh 99 = .ok (.getfield 51, 3) := by decide +kernel
theorem dX1_weigh_102 : decode cX1_weigh 102 = .ok (.if_icmp .ge 60, 3) := by decide +kernel
theorem dX1_weigh_105 : decode cX1_weigh 105 = .ok (.iload_n 3, 1) := by decide +kernel
theorem dX1_weigh_106 : decode cX1_weigh 106 = .ok (.ifCond .le 56, 3) := by decide +kernel
theorem dX1_weigh_109 : decode cX1_weigh 109 = .ok (.aload_n 2, 1) := by decide +kernel
theorem dX1_weigh_110 : decode cX1_weigh 110 = .ok (.getfield 77, 3) := by decide +kernel
theorem dX1_weigh_113 : decode cX1_weigh 113 = .ok (.sipush 1000, 3) := by decide +kernel
theorem dX1_weigh_116 : decode cX1_weigh 116 = .ok (.if_icmp .ge 46, 3) := by decide +kernel
theorem dX1_weigh_119 : decode cX1_weigh 119 = .ok (.aload_n 0, 1) := by decide +kernel
theorem dX1_weigh_120 : decode cX1_weigh 120 = .ok (.iload 5, 2) := by decide +kernel
theorem dX1_weigh_122 : decode cX1_weigh 122 = .ok (.iload_n 3, 1) := by decide +kernel
theorem dX1_weigh_123 : decode cX1_weigh 123 = .ok (.aload_n 2, 1) := by decide +kernel
theorem dX1_weigh_124 : decode cX1_weigh 124 = .ok (.getfield 77, 3) := by decide +kernel
theorem dX1_weigh_127 : decode cX1_weigh 127 = .ok (.invokevirtual 80, 3) := by decide +kernel
theorem dX1_weigh_130 : decode cX1_weigh 130 = .ok (.istore 6, 2) := by decide +kernel
theorem dX1_weigh_132 : decode cX1_weigh 132 = .ok (.iload 6, 2) := by decide +kernel
theorem dX1_weigh_134 : decode cX1_weigh 134 = .ok (.aload_n 0, 1) := by decide +kernel
theorem dX1_weigh_135 : decode cX1_weigh 135 = .ok (.getfield 71, 3) := by decide +kernel
theorem dX1_weigh_138 : decode cX1_weigh 138 = .ok (.if_icmp .le 18, 3) := by decide +kernel
theorem dX1_weigh_141 : decode cX1_weigh 141 = .ok (.aload_n 0, 1) := by decide +kernel
theorem dX1_weigh_142 : decode cX1_weigh 142 = .ok (.iload 6, 2) := by decide +kernel
theorem dX1_weigh_144 : decode cX1_weigh 144 = .ok (.putfield 71, 3) := by decide +kernel
theorem dX1_weigh_147 : decode cX1_weigh 147 = .ok (.aload_n 0, 1) := by decide +kernel
theorem dX1_weigh_148 : decode cX1_weigh 148 = .ok (.iload 5, 2) := by decide +kernel
theorem dX1_weigh_150 : decode cX1_weigh 150 = .ok (.invokestatic 29, 3) := by decide +kernel
theorem dX1_weigh_153 : decode cX1_weigh 153 = .ok (.putfield 74, 3) := by decide +kernel
theorem dX1_weigh_156 : decode cX1_weigh 156 = .ok (.iinc 5 1, 3) := by decide +kernel
theorem dX1_weigh_159 : decode cX1_weigh 159 = .ok (.goto (-63), 3) := by decide +kernel
theorem dX1_weigh_162 : decode cX1_weigh 162 = .ok (.return_, 1) := by decide +kernel
theorem dX1_by_0 : decode cX1_by 0 = .ok (.aload_n 0, 1) := by decide +kernel
theorem dX1_by_1 : decode cX1_by 1 = .ok (.getfield 18, 3) := by decide +kernel
theorem dX1_by_4 : decode cX1_by 4 = .ok (.iload_n 1, 1) := by decide +kernel
theorem dX1_by_5 : decode cX1_by 5 = .ok (.invokestatic 29, 3) := by decide +kernel
theorem dX1_by_8 : decode cX1_by 8 = .ok (.iconst 0, 1) := by decide +kernel
theorem dX1_by_9 : decode cX1_by 9 = .ok (.aload_n 0, 1) := by decide +kernel
theorem dX1_by_10 : decode cX1_by 10 = .ok (.getfield 39, 3) := by decide +kernel
theorem dX1_by_13 : decode cX1_by 13 = .ok (.invokevirtual 84, 3) := by decide +kernel
theorem dX1_by_16 : decode cX1_by 16 = .ok (.aload_n 0, 1) := by decide +kernel
theorem dX1_by_17 : decode cX1_by 17 = .ok (.getfield 18, 3) := by decide +kernel
theorem dX1_by_20 : decode cX1_by 20 = .ok (.iload_n 3, 1) := by decide +kernel
theorem dX1_by_21 : decode cX1_by 21 = .ok (.aload_n 0, 1) := by decide +kernel
theorem dX1_by_22 : decode cX1_by 22 = .ok (.getfield 57, 3) := by decide +kernel
theorem dX1_by_25 : decode cX1_by 25 = .ok (.iload_n 2, 1) := by decide +kernel
theorem dX1_by_26 : decode cX1_by 26 = .ok (.isub, 1) := by decide +kernel
theorem dX1_by_27 : decode cX1_by 27 = .ok (.invokevirtual 88, 3) := by decide +kernel
theorem dX1_by_30 : decode cX1_by 30 = .ok (.iload_n 1, 1) := by decide +kernel
theorem dX1_by_31 : decode cX1_by 31 = .ok (.ifCond .lt 40, 3) := by decide +kernel
theorem dX1_by_34 : decode cX1_by 34 = .ok (.iload_n 1, 1) := by decide +kernel
theorem dX1_by_35 : decode cX1_by 35 = .ok (.bipush 10, 2) := by decide +kernel
theorem dX1_by_37 : decode cX1_by 37 = .ok (.if_icmp .ge 34, 3) := by decide +kernel
theorem dX1_by_40 : decode cX1_by 40 = .ok (.aload_n 0, 1) := by decide +kernel
theorem dX1_by_41 : decode cX1_by 41 = .ok (.getfield 11, 3) := by decide +kernel
theorem dX1_by_44 : decode cX1_by 44 = .ok (.iload_n 1, 1) := by decide +kernel
theorem dX1_by_45 : decode cX1_by 45 = .ok (.baload, 1) := by decide +kernel
theorem dX1_by_46 : decode cX1_by 46 = .ok (.ifCond .eq 25, 3) := by decide +kernel
theorem dX1_by_49 : decode cX1_by 49 = .ok (.ldc 92, 2) := by decide +kernel
theorem dX1_by_51 : decode cX1_by 51 = .ok (.sipush 1000, 3) := by decide +kernel
theorem dX1_by_54 : decode cX1_by 54 = .ok (.aload_n 0, 1) := by decide +kernel
theorem dX1_by_55 : decode cX1_by 55 = .ok (.getfield 18, 3) := by decide +kernel
theorem dX1_by_58 : decode cX1_by 58 = .ok (.aload_n 0, 1) := by decide +kernel
theorem dX1_by_59 : decode cX1_by 59 = .ok (.getfield 36, 3) := by decide +kernel
theorem dX1_by_62 : decode cX1_by 62 = .ok (.iconst 0, 1) := by decide +kernel
theorem dX1_by_63 : decode cX1_by 63 = .ok (.invokevirtual 93, 3) := by decide +kernel
theorem dX1_by_66 : decode cX1_by 66 = .ok (.imul, 1) := by decide +kernel
theorem dX1_by_67 : decode cX1_by 67 = .ok (.isub, 1) := by decide +kernel
theorem dX1_by_68 : decode cX1_by 68 = .ok (.goto 4, 3) := by decide +kernel
theorem dX1_by_71 : decode cX1_by 71 = .ok (.iconst 0, 1) := by decide +kernel
theorem dX1_by_72 : decode cX1_by 72 = .ok (.istore 4, 2) := by decide +kernel
theorem dX1_by_74 : decode cX1_by 74 = .ok (.aload_n 0, 1) := by decide +kernel
theorem dX1_by_75 : decode cX1_by 75 = .ok (.iload_n 2, 1) := by decide +kernel
theorem dX1_by_76 : decode cX1_by 76 = .ok (.iconst 1, 1) := by decide +kernel
theorem dX1_by_77 : decode cX1_by 77 = .ok (.isub, 1) := by decide +kernel
theorem dX1_by_78 : decode cX1_by 78 = .ok (.sipush 1000, 3) := by decide +kernel
theorem dX1_by_81 : decode cX1_by 81 = .ok (.iload_n 3, 1) := by decide +kernel
theorem dX1_by_82 : decode cX1_by 82 = .ok (.aload_n 0, 1) := by decide +kernel
theorem dX1_by_83 : decode cX1_by 83 = .ok (.getfield 18, 3) := by decide +kernel
theorem dX1_by_86 : decode cX1_by 86 = .ok (.aload_n 0, 1) := by decide +kernel
theorem dX1_by_87 : decode cX1_by 87 = .ok (.getfield 36, 3) := by decide +kernel
theorem dX1_by_90 : decode cX1_by 90 = .ok (.iconst 1, 1) := by decide +kernel
theorem dX1_by_91 : decode cX1_by 91 = .ok (.invokevirtual 93, 3) := by decide +kernel
theorem dX1_by_94 : decode cX1_by 94 = .ok (.iadd, 1) := by decide +kernel
theorem dX1_by_95 : decode cX1_by 95 = .ok (.invokestatic 97, 3) := by decide +kernel
theorem dX1_by_98 : decode cX1_by 98 = .ok (.invokevirtual 103, 3) := by decide +kernel
theorem dX1_by_101 : decode cX1_by 101 = .ok (.istore 5, 2) := by decide +kernel
theorem dX1_by_103 : decode cX1_by 103 = .ok (.iload 4, 2) := by decide +kernel
theorem dX1_by_105 : decode cX1_by 105 = .ok (.ldc 92, 2) := by decide +kernel
theorem dX1_by_107 : decode cX1_by 107 = .ok (.iload 4, 2) := by decide +kernel
theorem dX1_by_109 : decode cX1_by 109 = .ok (.isub, 1) := by decide +kernel
theorem dX1_by_110 : decode cX1_by 110 = .ok (.i2l, 1) := by decide +kernel
theorem dX1_by_111 : decode cX1_by 111 = .ok (.iload 5, 2) := by decide +kernel
theorem dX1_by_113 : decode cX1_by 113 = .ok (.i2l, 1) := by decide +kernel
theorem dX1_by_114 : decode cX1_by 114 = .ok (.lmul, 1) := by decide +kernel
theorem dX1_by_115 : decode cX1_by 115 = .ok (.ldc2_w 106, 3) := by decide +kernel
theorem dX1_by_118 : decode cX1_by 118 = .ok (.ldiv, 1) := by decide +kernel
theorem dX1_by_119 : decode cX1_by 119 = .ok (.l2i, 1) := by decide +kernel
theorem dX1_by_120 : decode cX1_by 120 = .ok (.iadd, 1) := by decide +kernel
theorem dX1_by_121 : decode cX1_by 121 = .ok (.ireturn, 1) := by decide +kernel
theorem dX1_greatest_0 : decode cX1_greatest 0 = .ok (.iload_n 1, 1) := by decide +kernel
theorem dX1_greatest_1 : decode cX1_greatest 1 = .ok (.ifCond .le 23, 3) := by decide +kernel
theorem dX1_greatest_4 : decode cX1_greatest 4 = .ok (.iload_n 1, 1) := by decide +kernel
theorem dX1_greatest_5 : decode cX1_greatest 5 = .ok (.aload_n 0, 1) := by decide +kernel
theorem dX1_greatest_6 : decode cX1_greatest 6 = .ok (.getfield 26, 3) := by decide +kernel
theorem dX1_greatest_9 : decode cX1_greatest 9 = .ok (.arraylength, 1) := by decide +kernel
theorem dX1_greatest_10 : decode cX1_greatest 10 = .ok (.if_icmp .ge 14, 3) := by decide +kernel
theorem dX1_greatest_13 : decode cX1_greatest 13 = .ok (.iload_n 2, 1) := by decide +kernel
theorem dX1_greatest_14 : decode cX1_greatest 14 = .ok (.ifCond .lt 10, 3) := by decide +kernel
theorem dX1_greatest_17 : decode cX1_greatest 17 = .ok (.iload_n 2, 1) := by decide +kernel
theorem dX1_greatest_18 : decode cX1_greatest 18 = .ok (.sipush 1000, 3) := by decide +kernel
theorem dX1_greatest_21 : decode cX1_greatest 21 = .ok (.if_icmp .lt 5, 3) := by decide +kernel
theorem dX1_greatest_24 : decode cX1_greatest 24 = .ok (.iconst 0, 1) := by decide +kernel
theorem dX1_greatest_25 : decode cX1_greatest 25 = .ok (.ireturn, 1) := by decide +kernel
theorem dX1_greatest_26 : decode cX1_greatest 26 = .ok (.aload_n 0, 1) := by decide +kernel
theorem dX1_greatest_27 : decode cX1_greatest 27 = .ok (.getfield 26, 3) := by decide +kernel
theorem dX1_greatest_30 : decode cX1_greatest 30 = .ok (.iload_n 1, 1) := by decide +kernel
theorem dX1_greatest_31 : decode cX1_greatest 31 = .ok (.aaload, 1) := by decide +kernel
theorem dX1_greatest_32 : decode cX1_greatest 32 = .ok (.iload_n 2, 1) := by decide +kernel
theorem dX1_greatest_33 : decode cX1_greatest 33 = .ok (.iaload, 1) := by decide +kernel
theorem dX1_greatest_34 : decode cX1_greatest 34 = .ok (.iconst (-1), 1) := by decide +kernel
theorem dX1_greatest_35 : decode cX1_greatest 35 = .ok (.if_icmp .eq 12, 3) := by decide +kernel
theorem dX1_greatest_38 : decode cX1_greatest 38 = .ok (.aload_n 0, 1) := by decide +kernel
theorem dX1_greatest_39 : decode cX1_greatest 39 = .ok (.getfield 26, 3) := by decide +kernel
theorem dX1_greatest_42 : decode cX1_greatest 42 = .ok (.iload_n 1, 1) := by decide +kernel
theorem dX1_greatest_43 : decode cX1_greatest 43 = .ok (.aaload, 1) := by decide +kernel
theorem dX1_greatest_44 : decode cX1_greatest 44 = .ok (.iload_n 2, 1) := by decide +kernel
theorem dX1_greatest_45 : decode cX1_greatest 45 = .ok (.iaload, 1) := by decide +kernel
theorem dX1_greatest_46 : decode cX1_greatest 46 = .ok (.ireturn, 1) := by decide +kernel
theorem dX1_greatest_47 : decode cX1_greatest 47 = .ok (.iconst 0, 1) := by decide +kernel
theorem dX1_greatest_48 : decode cX1_greatest 48 = .ok (.istore_n 3, 1) := by decide +kernel
theorem dX1_greatest_49 : decode cX1_greatest 49 = .ok (.iconst 0, 1) := by decide +kernel
theorem dX1_greatest_50 : decode cX1_greatest 50 = .ok (.istore 4, 2) := by decide +kernel
theorem dX1_greatest_52 : decode cX1_greatest 52 = .ok (.iload 4, 2) := by decide +kernel
theorem dX1_greatest_54 : decode cX1_greatest 54 = .ok (.aload_n 0, 1) := by decide +kernel
theorem dX1_greatest_55 : decode cX1_greatest 55 = .ok (.getfield 51, 3) := by decide +kernel
theorem dX1_greatest_58 : decode cX1_greatest 58 = .ok (.if_icmp .ge 22, 3) := by decide +kernel
theorem dX1_greatest_61 : decode cX1_greatest 61 = .ok (.iload_n 3, 1) := by decide +kernel
theorem dX1_greatest_62 : decode cX1_greatest 62 = .ok (.aload_n 0, 1) := by decide +kernel
theorem dX1_greatest_63 : decode cX1_greatest 63 = .ok (.iload 4, 2) := by decide +kernel
theorem dX1_greatest_65 : decode cX1_greatest 65 = .ok (.iload_n 1, 1) := by decide +kernel
theorem dX1_greatest_66 : decode cX1_greatest 66 = .ok (.iload_n 2, 1) := by decide +kernel
theorem dX1_greatest_67 : decode cX1_greatest 67 = .ok (.invokevirtual 80, 3) := by decide +kernel
theorem dX1_greatest_70 : decode cX1_greatest 70 = .ok (.invokestatic 108, 3) := by decide +kernel
theorem dX1_greatest_73 : decode cX1_greatest 73 = .ok (.istore_n 3, 1) := by decide +kernel
theorem dX1_greatest_74 : decode cX1_greatest 74 = .ok (.iinc 4 1, 3) := by decide +kernel
theorem dX1_greatest_77 : decode cX1_greatest 77 = .ok (.goto (-25), 3) := by decide +kernel
theorem dX1_greatest_80 : decode cX1_greatest 80 = .ok (.aload_n 0, 1) := by decide +kernel
theorem dX1_greatest_81 : decode cX1_greatest 81 = .ok (.getfield 26, 3) := by decide +kernel
theorem dX1_greatest_84 : decode cX1_greatest 84 = .ok (.iload_n 1, 1) := by decide +kernel
theorem dX1_greatest_85 : decode cX1_greatest 85 = .ok (.aaload, 1) := by decide +kernel
theorem dX1_greatest_86 : decode cX1_greatest 86 = .ok (.iload_n 2, 1) := by decide +kernel
theorem dX1_greatest_87 : decode cX1_greatest 87 = .ok (.iload_n 3, 1) := by decide +kernel
theorem dX1_greatest_88 : decode cX1_greatest 88 = .ok (.iastore, 1) := by decide +kernel
theorem dX1_greatest_89 : decode cX1_greatest 89 = .ok (.iload_n 3, 1) := by decide +kernel
theorem dX1_greatest_90 : decode cX1_greatest 90 = .ok (.ireturn, 1) := by decide +kernel
theorem dX2_init_0 : decode cX2_init 0 = .ok (.aload_n 0, 1) := by decide +kernel
theorem dX2_init_1 : decode cX2_init 1 = .ok (.invokespecial 3, 3) := by decide +kernel
theorem dX2_init_4 : decode cX2_init 4 = .ok (.aload_n 0, 1) := by decide +kernel
theorem dX2_init_5 : decode cX2_init 5 = .ok (.bipush 9, 2) := by decide +kernel
theorem dX2_init_7 : decode cX2_init 7 = .ok (.newarray .int, 2) := by decide +kernel
theorem dX2_init_9 : decode cX2_init 9 = .ok (.putfield 9, 3) := by decide +kernel
theorem dX2_init_12 : decode cX2_init 12 = .ok (.return_, 1) := by decide +kernel
theorem dX2_begin_0 : decode cX2_begin 0 = .ok (.aload_n 0, 1) := by decide +kernel
theorem dX2_begin_1 : decode cX2_begin 1 = .ok (.getfield 9, 3) := by decide +kernel
theorem dX2_begin_4 : decode cX2_begin 4 = .ok (.iconst 0, 1) := by decide +kernel
theorem dX2_begin_5 : decode cX2_begin 5 = .ok (.iconst 3, 1) := by decide +kernel
theorem dX2_begin_6 : decode cX2_begin 6 = .ok (.iload_n 2, 1) := by decide +kernel
theorem dX2_begin_7 : decode cX2_begin 7 = .ok (.imul, 1) := by decide +kernel
theorem dX2_begin_8 : decode cX2_begin 8 = .ok (.bipush 90, 2) := by decide +kernel
theorem dX2_begin_10 : decode cX2_begin 10 = .ok (.iload_n 3, 1) := by decide +kernel
theorem dX2_begin_11 : decode cX2_begin 11 = .ok (.isub, 1) := by decide +kernel
theorem dX2_begin_12 : decode cX2_begin 12 = .ok (.invokestatic 15, 3) := by decide +kernel
theorem dX2_begin_15 : decode cX2_begin 15 = .ok (.imul, 1) := by decide +kernel
theorem dX2_begin_16 : decode cX2_begin 16 = .ok (.sipush 1000, 3) := by decide +kernel
theorem dX2_begin_19 : decode cX2_begin 19 = .ok (.idiv, 1) := by decide +kernel
theorem dX2_begin_20 : decode cX2_begin 20 = .ok (.iastore, 1) := by decide +kernel
theorem dX2_begin_21 : decode cX2_begin 21 = .ok (.aload_n 0, 1) := by decide +kernel
theorem dX2_begin_22 : decode cX2_begin 22 = .ok (.getfield 9, 3) := by decide +kernel
theorem dX2_begin_25 : decode cX2_begin 25 = .ok (.iconst 1, 1) := by decide +kernel
theorem dX2_begin_26 : decode cX2_begin 26 = .ok (.iconst 3, 1) := by decide +kernel
theorem dX2_begin_27 : decode cX2_begin 27 = .ok (.iload_n 2, 1) := by decide +kernel
theorem dX2_begin_28 : decode cX2_begin 28 = .ok (.imul, 1) := by decide +kernel
theorem dX2_begin_29 : decode cX2_begin 29 = .ok (.iload_n 3, 1) := by decide +kernel
theorem dX2_begin_30 : decode cX2_begin 30 = .ok (.invokestatic 15, 3) := by decide +kernel
theorem dX2_begin_33 : decode cX2_begin 33 = .ok (.imul, 1) := by decide +kernel
theorem dX2_begin_34 : decode cX2_begin 34 = .ok (.sipush 1000, 3) := by decide +kernel
theorem dX2_begin_37 : decode cX2_begin 37 = .ok (.idiv, 1) := by decide +kernel
theorem dX2_begin_38 : decode cX2_begin 38 = .ok (.iastore, 1) := by decide +kernel
theorem dX2_begin_39 : decode cX2_begin 39 = .ok (.aload_n 0, 1) := by decide +kernel
theorem dX2_begin_40 : decode cX2_begin 40 = .ok (.getfield 9, 3) := by decide +kernel
theorem dX2_begin_43 : decode cX2_begin 43 = .ok (.iconst 2, 1) := by decide +kernel
theorem dX2_begin_44 : decode cX2_begin 44 = .ok (.sipush 180, 3) := by decide +kernel
theorem dX2_begin_47 : decode cX2_begin 47 = .ok (.iastore, 1) := by decide +kernel
theorem dX2_begin_48 : decode cX2_begin 48 = .ok (.aload_n 0, 1) := by decide +kernel
theorem dX2_begin_49 : decode cX2_begin 49 = .ok (.getfield 9, 3) := by decide +kernel
theorem dX2_begin_52 : decode cX2_begin 52 = .ok (.iconst 3, 1) := by decide +kernel
theorem dX2_begin_53 : decode cX2_begin 53 = .ok (.iload_n 3, 1) := by decide +kernel
theorem dX2_begin_54 : decode cX2_begin 54 = .ok (.iload 4, 2) := by decide +kernel
theorem dX2_begin_56 : decode cX2_begin 56 = .ok (.iadd, 1) := by decide +kernel
theorem dX2_begin_57 : decode cX2_begin 57 = .ok (.iastore, 1) := by decide +kernel
theorem dX2_begin_58 : decode cX2_begin 58 = .ok (.aload_n 0, 1) := by decide +kernel
theorem dX2_begin_59 : decode cX2_begin 59 = .ok (.getfield 9, 3) := by decide +kernel
theorem dX2_begin_62 : decode cX2_begin 62 = .ok (.iconst 4, 1) := by decide +kernel
theorem dX2_begin_63 : decode cX2_begin 63 = .ok (.iload 6, 2) := by decide +kernel
theorem dX2_begin_65 : decode cX2_begin 65 = .ok (.iastore, 1) := by decide +kernel
theorem dX2_begin_66 : decode cX2_begin 66 = .ok (.aload_n 0, 1) := by decide +kernel
theorem dX2_begin_67 : decode cX2_begin 67 = .ok (.getfield 9, 3) := by decide +kernel
theorem dX2_begin_70 : decode cX2_begin 70 = .ok (.iconst 5, 1) := by decide +kernel
theorem dX2_begin_71 : decode cX2_begin 71 = .ok (.iload 7, 2) := by decide +kernel
theorem dX2_begin_73 : decode cX2_begin 73 = .ok (.iastore, 1) := by decide +kernel
theorem dX2_begin_74 : decode cX2_begin 74 = .ok (.aload_n 0, 1) := by decide +kernel
theorem dX2_begin_75 : decode cX2_begin 75 = .ok (.getfield 9, 3) := by decide +kernel
theorem dX2_begin_78 : decode cX2_begin 78 = .ok (.bipush 6, 2) := by decide +kernel
theorem dX2_begin_80 : decode cX2_begin 80 = .ok (.aload_n 1, 1) := by decide +kernel
theorem dX2_begin_81 : decode cX2_begin 81 = .ok (.iload 5, 2) := by decide +kernel
theorem dX2_begin_83 : decode cX2_begin 83 = .ok (.invokevirtual 19, 3) := by decide +kernel
theorem dX2_begin_86 : decode cX2_begin 86 = .ok (.ifCond .eq 13, 3) := by decide +kernel
theorem dX2_begin_89 : decode cX2_begin 89 = .ok (.aload_n 1, 1) := by decide +kernel
theorem dX2_begin_90 : decode cX2_begin 90 = .ok (.getfield 25, 3) := by decide +kernel
theorem dX2_begin_93 : decode cX2_begin 93 = .ok (.iload 5, 2) := by decide +kernel
theorem dX2_begin_95 : decode cX2_begin 95 = .ok (.iaload, 1) := by decide +kernel
theorem dX2_begin_96 : decode cX2_begin 96 = .ok (.goto 4, 3) := by decide +kernel
theorem dX2_begin_99 : decode cX2_begin 99 = .ok (.iconst 0, 1) := by decide +kernel
theorem dX2_begin_100 : decode cX2_begin 100 = .ok (.iastore, 1) := by decide +kernel
theorem dX2_begin_101 : decode cX2_begin 101 = .ok (.aload_n 0, 1) := by decide +kernel
theorem dX2_begin_102 : decode cX2_begin 102 = .ok (.getfield 9, 3) := by decide +kernel
theorem dX2_begin_105 : decode cX2_begin 105 = .ok (.bipush 7, 2) := by decide +kernel
theorem dX2_begin_107 : decode cX2_begin 107 = .ok (.aload_n 1, 1) := by decide +kernel
theorem dX2_begin_108 : decode cX2_begin 108 = .ok (.iload 5, 2) := by decide +kernel
theorem dX2_begin_110 : decode cX2_begin 110 = .ok (.invokevirtual 19, 3) := by decide +kernel
theorem dX2_begin_113 : decode cX2_begin 113 = .ok (.ifCond .eq 13, 3) := by decide +kernel
theorem dX2_begin_116 : decode cX2_begin 116 = .ok (.aload_n 1, 1) := by decide +kernel
theorem dX2_begin_117 : decode cX2_begin 117 = .ok (.getfield 28, 3) := by decide +kernel
theorem dX2_begin_120 : decode cX2_begin 120 = .ok (.iload 5, 2) := by decide +kernel
theorem dX2_begin_122 : decode cX2_begin 122 = .ok (.iaload, 1) := by decide +kernel
theorem dX2_begin_123 : decode cX2_begin 123 = .ok (.goto 4, 3) := by decide +kernel
theorem dX2_begin_126 : decode cX2_begin 126 = .ok (.iconst 0, 1) := by decide +kernel
theorem dX2_begin_127 : decode cX2_begin 127 = .ok (.iastore, 1) := by decide +kernel
theorem dX2_begin_128 : decode cX2_begin 128 = .ok (.aload_n 0, 1) := by decide +kernel
theorem dX2_begin_129 : decode cX2_begin 129 = .ok (.getfield 9, 3) := by decide +kernel
theorem dX2_begin_132 : decode cX2_begin 132 = .ok (.bipush 8, 2) := by decide +kernel
theorem dX2_begin_134 : decode cX2_begin 134 = .ok (.iconst 0, 1) := by decide +kernel
theorem dX2_begin_135 : decode cX2_begin 135 = .ok (.iastore, 1) := by decide +kernel
theorem dX2_begin_136 : decode cX2_begin 136 = .ok (.aload_n 0, 1) := by decide +kernel
theorem dX2_begin_137 : decode cX2_begin 137 = .ok (.iconst 0, 1) := by decide +kernel
theorem dX2_begin_138 : decode cX2_begin 138 = .ok (.putfield 31, 3) := by decide +kernel
theorem dX2_begin_141 : decode cX2_begin 141 = .ok (.aload_n 0, 1) := by decide +kernel
theorem dX2_begin_142 : decode cX2_begin 142 = .ok (.iconst 0, 1) := by decide +kernel
theorem dX2_begin_143 : decode cX2_begin 143 = .ok (.putfield 35, 3) := by decide +kernel
theorem dX2_begin_146 : decode cX2_begin 146 = .ok (.aload_n 0, 1) := by decide +kernel
theorem dX2_begin_147 : decode cX2_begin 147 = .ok (.iconst 0, 1) := by decide +kernel
theorem dX2_begin_148 : decode cX2_begin 148 = .ok (.putfield 38, 3) := by decide +kernel
theorem dX2_begin_151 : decode cX2_begin 151 = .ok (.aload_n 0, 1) := by decide +kernel
theorem dX2_begin_152 : decode cX2_begin 152 = .ok (.sipush 180, 3) := by decide +kernel
theorem dX2_begin_155 : decode cX2_begin 155 = .ok (.putfield 41, 3) := by decide +kernel
theorem dX2_begin_158 : decode cX2_begin 158 = .ok (.return_, 1) := by decide +kernel
theorem dX2_sine_0 : decode cX2_sine 0 = .ok (.iload_n 0, 1) := by decide +kernel
theorem dX2_sine_1 : decode cX2_sine 1 = .ok (.sipush 180, 3) := by decide +kernel
theorem dX2_sine_4 : decode cX2_sine 4 = .ok (.iload_n 0, 1) := by decide +kernel
theorem dX2_sine_5 : decode cX2_sine 5 = .ok (.isub, 1) := by decide +kernel
theorem dX2_sine_6 : decode cX2_sine 6 = .ok (.imul, 1) := by decide +kernel
theorem dX2_sine_7 : decode cX2_sine 7 = .ok (.istore_n 1, 1) := by decide +kernel
theorem dX2_sine_8 : decode cX2_sine 8 = .ok (.iload_n 0, 1) := by decide +kernel
theorem dX2_sine_9 : decode cX2_sine 9 = .ok (.ifCond .lt 9, 3) := by decide +kernel
theorem dX2_sine_12 : decode cX2_sine 12 = .ok (.iload_n 0, 1) := by decide +kernel
theorem dX2_sine_13 : decode cX2_sine 13 = .ok (.bipush 90, 2) := by decide +kernel
theorem dX2_sine_15 : decode cX2_sine 15 = .ok (.if_icmp .le 7, 3) := by decide +kernel
theorem dX2_sine_18 : decode cX2_sine 18 = .ok (.iconst 0, 1) := by decide +kernel
theorem dX2_sine_19 : decode cX2_sine 19 = .ok (.goto 13, 3) := by decide +kernel
theorem dX2_sine_22 : decode cX2_sine 22 = .ok (.sipush 4000, 3) := by decide +kernel
theorem dX2_sine_25 : decode cX2_sine 25 = .ok (.iload_n 1, 1) := by decide +kernel
theorem dX2_sine_26 : decode cX2_sine 26 = .ok (.imul, 1) := by decide +kernel
theorem dX2_sine_27 : decode cX2_sine 27 = .ok (.ldc 44, 2) := by decide +kernel
theorem dX2_sine_29 : decode cX2_sine 29 = .ok (.iload_n 1, 1) := by decide +kernel
theorem dX2_sine_30 : decode cX2_sine 30 = .ok (.isub, 1) := by decide +kernel
theorem dX2_sine_31 : decode cX2_sine 31 = .ok (.idiv, 1) := by decide +kernel
theorem dX2_sine_32 : decode cX2_sine 32 = .ok (.ireturn, 1) := by decide +kernel
theorem dX2_go_0 : decode cX2_go 0 = .ok (.iconst 0, 1) := by decide +kernel
theorem dX2_go_1 : decode cX2_go 1 = .ok (.istore_n 3, 1) := by decide +kernel
theorem dX2_go_2 : decode cX2_go 2 = .ok (.iload_n 3, 1) := by decide +kernel
theorem dX2_go_3 : decode cX2_go 3 = .ok (.iload_n 2, 1) := by decide +kernel
theorem dX2_go_4 : decode cX2_go 4 = .ok (.if_icmp .ge 30, 3) := by decide +kernel
theorem dX2_go_7 : decode cX2_go 7 = .ok (.iload_n 3, 1) := by decide +kernel
theorem dX2_go_8 : decode cX2_go 8 = .ok (.sipush 400, 3) := by decide +kernel
theorem dX2_go_11 : decode cX2_go 11 = .ok (.if_icmp .ge 23, 3) := by decide +kernel
theorem dX2_go_14 : decode cX2_go 14 = .ok (.aload_n 0, 1) := by decide +kernel
theorem dX2_go_15 : decode cX2_go 15 = .ok (.getfield 9, 3) := by decide +kernel
theorem dX2_go_18 : decode cX2_go 18 = .ok (.iconst 2, 1) := by decide +kernel
theorem dX2_go_19 : decode cX2_go 19 = .ok (.iaload, 1) := by decide +kernel
theorem dX2_go_20 : decode cX2_go 20 = .ok (.ifCond .le 14, 3) := by decide +kernel
theorem dX2_go_23 : decode cX2_go 23 = .ok (.aload_n 0, 1) := by decide +kernel
theorem dX2_go_24 : decode cX2_go 24 = .ok (.aload_n 1, 1) := by decide +kernel
theorem dX2_go_25 : decode cX2_go 25 = .ok (.invokevirtual 45, 3) := by decide +kernel
theorem dX2_go_28 : decode cX2_go 28 = .ok (.iinc 3 1, 3) := by decide +kernel
theorem dX2_go_31 : decode cX2_go 31 = .ok (.goto (-29), 3) := by decide +kernel
theorem dX2_go_34 : decode cX2_go 34 = .ok (.return_, 1) := by decide +kernel
theorem dX2_tick_0 : decode cX2_tick 0 = .ok (.aload_n 1, 1) := by decide +kernel
theorem dX2_tick_1 : decode cX2_tick 1 = .ok (.iconst 0, 1) := by decide +kernel
theorem dX2_tick_2 : decode cX2_tick 2 = .ok (.aload_n 0, 1) := by decide +kernel
theorem dX2_tick_3 : decode cX2_tick 3 = .ok (.getfield 9, 3) := by decide +kernel
theorem dX2_tick_6 : decode cX2_tick 6 = .ok (.invokevirtual 49, 3) := by decide +kernel
theorem dX2_tick_9 : decode cX2_tick 9 = .ok (.bipush (-20), 2) := by decide +kernel
theorem dX2_tick_11 : decode cX2_tick 11 = .ok (.bipush 20, 2) := by decide +kernel
theorem dX2_tick_13 : decode cX2_tick 13 = .ok (.invokestatic 55, 3) := by decide +kernel
theorem dX2_tick_16 : decode cX2_tick 16 = .ok (.istore_n 2, 1) := by decide +kernel
theorem dX2_tick_17 : decode cX2_tick 17 = .ok (.aload_n 1, 1) := by decide +kernel
theorem dX2_tick_18 : decode cX2_tick 18 = .ok (.iconst 1, 1) := by decide +kernel
theorem dX2_tick_19 : decode cX2_tick 19 = .ok (.aload_n 0, 1) := by decide +kernel
theorem dX2_tick_20 : decode cX2_tick 20 = .ok (.getfield 9, 3) := by decide +kernel
theorem dX2_tick_23 : decode cX2_tick 23 = .ok (.invokevirtual 49, 3) := by decide +kernel
theorem dX2_tick_26 : decode cX2_tick 26 = .ok (.iconst 0, 1) := by decide +kernel
theorem dX2_tick_27 : decode cX2_tick 27 = .ok (.bipush 50, 2) := by decide +kernel
theorem dX2_tick_29 : decode cX2_tick 29 = .ok (.invokestatic 55, 3) := by decide +kernel
theorem dX2_tick_32 : decode cX2_tick 32 = .ok (.istore_n 3, 1) := by decide +kernel
theorem dX2_tick_33 : decode cX2_tick 33 = .ok (.aload_n 1, 1) := by decide +kernel
theorem dX2_tick_34 : decode cX2_tick 34 = .ok (.iconst 2, 1) := by decide +kernel
theorem dX2_tick_35 : decode cX2_tick 35 = .ok (.aload_n 0, 1) := by decide +kernel
theorem dX2_tick_36 : decode cX2_tick 36 = .ok (.getfield 9, 3) := by decide +kernel
theorem dX2_tick_39 : decode cX2_tick 39 = .ok (.invokevirtual 49, 3) := by decide +kernel
theorem dX2_tick_42 : decode cX2_tick 42 = .ok (.bipush (-9), 2) := by decide +kernel
theorem dX2_tick_44 : decode cX2_tick 44 = .ok (.bipush 9, 2) := by decide +kernel
theorem dX2_tick_46 : decode cX2_tick 46 = .ok (.invokestatic 55, 3) := by decide +kernel
theorem dX2_tick_49 : decode cX2_tick 49 = .ok (.istore 4, 2) := by decide +kernel
theorem dX2_tick_51 : decode cX2_tick 51 = .ok (.aload_n 1, 1) := by decide +kernel
theorem dX2_tick_52 : decode cX2_tick 52 = .ok (.iconst 3, 1) := by decide +kernel
theorem dX2_tick_53 : decode cX2_tick 53 = .ok (.aload_n 0, 1) := by decide +kernel
theorem dX2_tick_54 : decode cX2_tick 54 = .ok (.getfield 9, 3) := by decide +kernel
theorem dX2_tick_57 : decode cX2_tick 57 = .ok (.invokevirtual 49, 3) := by decide +kernel
theorem dX2_tick_60 : decode cX2_tick 60 = .ok (.bipush (-9), 2) := by decide +kernel
theorem dX2_tick_62 : decode cX2_tick 62 = .ok (.bipush 9, 2) := by decide +kernel
theorem dX2_tick_64 : decode cX2_tick 64 = .ok (.invokestatic 55, 3) := by decide +kernel
theorem dX2_tick_67 : decode cX2_tick 67 = .ok (.istore 5, 2) := by decide +kernel
theorem dX2_tick_69 : decode cX2_tick 69 = .ok (.aload_n 0, 1) := by decide +kernel
theorem dX2_tick_70 : decode cX2_tick 70 = .ok (.getfield 9, 3) := by decide +kernel
theorem dX2_tick_73 : decode cX2_tick 73 = .ok (.iconst 1, 1) := by decide +kernel
theorem dX2_tick_74 : decode cX2_tick 74 = .ok (.dup2, 1) := by decide +kernel
theorem dX2_tick_75 : decode cX2_tick 75 = .ok (.iaload, 1) := by decide +kernel
theorem dX2_tick_76 : decode cX2_tick 76 = .ok (.iload_n 2, 1) := by decide +kernel
theorem dX2_tick_77 : decode cX2_tick 77 = .ok (.bipush 10, 2) := by decide +kernel
theorem dX2_tick_79 : decode cX2_tick 79 = .ok (.isub, 1) := by decide +kernel
theorem dX2_tick_80 : decode cX2_tick 80 = .ok (.iadd, 1) := by decide +kernel
theorem dX2_tick_81 : decode cX2_tick 81 = .ok (.iastore, 1) := by decide +kernel
theorem dX2_tick_82 : decode cX2_tick 82 = .ok (.aload_n 0, 1) := by decide +kernel
theorem dX2_tick_83 : decode cX2_tick 83 = .ok (.getfield 9, 3) := by decide +kernel
theorem dX2_tick_86 : decode cX2_tick 86 = .ok (.iconst 0, 1) := by decide +kernel
theorem dX2_tick_87 : decode cX2_tick 87 = .ok (.iconst 0, 1) := by decide +kernel
theorem dX2_tick_88 : decode cX2_tick 88 = .ok (.aload_n 0, 1) := by decide +kernel
theorem dX2_tick_89 : decode cX2_tick 89 = .ok (.getfield 9, 3) := by decide +kernel
theorem dX2_tick_92 : decode cX2_tick 92 = .ok (.iconst 0, 1) := by decide +kernel
theorem dX2_tick_93 : decode cX2_tick 93 = .ok (.iaload, 1) := by decide +kernel
theorem dX2_tick_94 : decode cX2_tick 94 = .ok (.iload_n 3, 1) := by decide +kernel
theorem dX2_tick_95 : decode cX2_tick 95 = .ok (.isub, 1) := by decide +kernel
theorem dX2_tick_96 : decode cX2_tick 96 = .ok (.invokestatic 59, 3) := by decide +kernel
theorem dX2_tick_99 : decode cX2_tick 99 = .ok (.iastore, 1) := by decide +kernel
theorem dX2_tick_100 : decode cX2_tick 100 = .ok (.aload_n 0, 1) := by decide +kernel
theorem dX2_tick_101 : decode cX2_tick 101 = .ok (.getfield 9, 3) := by decide +kernel
theorem dX2_tick_104 : decode cX2_tick 104 = .ok (.iconst 3, 1) := by decide +kernel
theorem dX2_tick_105 : decode cX2_tick 105 = .ok (.dup2, 1) := by decide +kernel
theorem dX2_tick_106 : decode cX2_tick 106 = .ok (.iaload, 1) := by decide +kernel
theorem dX2_tick_107 : decode cX2_tick 107 = .ok (.iload 4, 2) := by decide +kernel
theorem dX2_tick_109 : decode cX2_tick 109 = .ok (.isub, 1) := by decide +kernel
theorem dX2_tick_110 : decode cX2_tick 110 = .ok (.iastore, 1) := by decide +kernel
theorem dX2_tick_111 : decode cX2_tick 111 = .ok (.aload_n 0, 1) := by decide +kernel
theorem dX2_tick_112 : decode cX2_tick 112 = .ok (.dup, 1) := by decide +kernel
theorem dX2_tick_113 : decode cX2_tick 113 = .ok (.getfield 38, 3) := by decide +kernel
theorem dX2_tick_116 : decode cX2_tick 116 = .ok (.iload 5, 2) := by decide +kernel
theorem dX2_tick_118 : decode cX2_tick 118 = .ok (.iadd, 1) := by decide +kernel
theorem dX2_tick_119 : decode cX2_tick 119 = .ok (.putfield 38, 3) := by decide +kernel
theorem dX2_tick_122 : decode cX2_tick 122 = .ok (.aload_n 0, 1) := by decide +kernel
theorem dX2_tick_123 : decode cX2_tick 123 = .ok (.dup, 1) := by decide +kernel
theorem dX2_tick_124 : decode cX2_tick 124 = .ok (.getfield 31, 3) := by decide +kernel
theorem dX2_tick_127 : decode cX2_tick 127 = .ok (.aload_n 0, 1) := by decide +kernel
theorem dX2_tick_128 : decode cX2_tick 128 = .ok (.getfield 9, 3) := by decide +kernel
theorem dX2_tick_131 : decode cX2_tick 131 = .ok (.iconst 0, 1) := by decide +kernel
theorem dX2_tick_132 : decode cX2_tick 132 = .ok (.iaload, 1) := by decide +kernel
theorem dX2_tick_133 : decode cX2_tick 133 = .ok (.iadd, 1) := by decide +kernel
theorem dX2_tick_134 : decode cX2_tick 134 = .ok (.putfield 31, 3) := by decide +kernel
theorem dX2_tick_137 : decode cX2_tick 137 = .ok (.aload_n 0, 1) := by decide +kernel
theorem dX2_tick_138 : decode cX2_tick 138 = .ok (.getfield 9, 3) := by decide +kernel
theorem dX2_tick_141 : decode cX2_tick 141 = .ok (.iconst 2, 1) := by decide +kernel
theorem dX2_tick_142 : decode cX2_tick 142 = .ok (.dup2, 1) := by decide +kernel
theorem dX2_tick_143 : decode cX2_tick 143 = .ok (.iaload, 1) := by decide +kernel
theorem dX2_tick_144 : decode cX2_tick 144 = .ok (.aload_n 0, 1) := by decide +kernel
theorem dX2_tick_145 : decode cX2_tick 145 = .ok (.getfield 9, 3) := by decide +kernel
theorem dX2_tick_148 : decode cX2_tick 148 = .ok (.iconst 1, 1) := by decide +kernel
theorem dX2_tick_149 : decode cX2_tick 149 = .ok (.iaload, 1) := by decide +kernel
theorem dX2_tick_150 : decode cX2_tick 150 = .ok (.iadd, 1) := by decide +kernel
theorem dX2_tick_151 : decode cX2_tick 151 = .ok (.iastore, 1) := by decide +kernel
theorem dX2_tick_152 : decode cX2_tick 152 = .ok (.aload_n 0, 1) := by decide +kernel
theorem dX2_tick_153 : decode cX2_tick 153 = .ok (.dup, 1) := by decide +kernel
theorem dX2_tick_154 : decode cX2_tick 154 = .ok (.getfield 35, 3) := by decide +kernel
theorem dX2_tick_157 : decode cX2_tick 157 = .ok (.aload_n 0, 1) := by decide +kernel
theorem dX2_tick_158 : decode cX2_tick 158 = .ok (.getfield 38, 3) := by decide +kernel
theorem dX2_tick_161 : decode cX2_tick 161 = .ok (.iadd, 1) := by decide +kernel
theorem dX2_tick_162 : decode cX2_tick 162 = .ok (.putfield 35, 3) := by decide +kernel
theorem dX2_tick_165 : decode cX2_tick 165 = .ok (.aload_n 0, 1) := by decide +kernel
theorem dX2_tick_166 : decode cX2_tick 166 = .ok (.aload_n 0, 1) := by decide +kernel
theorem dX2_tick_167 : decode cX2_tick 167 = .ok (.getfield 41, 3) := by decide +kernel
theorem dX2_tick_170 : decode cX2_tick 170 = .ok (.aload_n 0, 1) := by decide +kernel
theorem dX2_tick_171 : decode cX2_tick 171 = .ok (.getfield 9, 3) := by decide +kernel
theorem dX2_tick_174 : decode cX2_tick 174 = .ok (.iconst 2, 1) := by decide +kernel
theorem dX2_tick_175 : decode cX2_tick 175 = .ok (.iaload, 1) := by decide +kernel
theorem dX2_tick_176 : decode cX2_tick 176 = .ok (.invokestatic 59, 3) := by decide +kernel
theorem dX2_tick_179 : decode cX2_tick 179 = .ok (.putfield 41, 3) := by decide +kernel
theorem dX2_tick_182 : decode cX2_tick 182 = .ok (.aload_n 0, 1) := by decide +kernel
theorem dX2_tick_183 : decode cX2_tick 183 = .ok (.getfield 9, 3) := by decide +kernel
theorem dX2_tick_186 : decode cX2_tick 186 = .ok (.bipush 8, 2) := by decide +kernel
theorem dX2_tick_188 : decode cX2_tick 188 = .ok (.dup2, 1) := by decide +kernel
theorem dX2_tick_189 : decode cX2_tick 189 = .ok (.iaload, 1) := by decide +kernel
theorem dX2_tick_190 : decode cX2_tick 190 = .ok (.iconst 1, 1) := by decide +kernel
theorem dX2_tick_191 : decode cX2_tick 191 = .ok (.iadd, 1) := by decide +kernel
theorem dX2_tick_192 : decode cX2_tick 192 = .ok (.iastore, 1) := by decide +kernel
theorem dX2_tick_193 : decode cX2_tick 193 = .ok (.return_, 1) := by decide +kernel
theorem dX2_landing_0 : decode cX2_landing 0 = .ok (.aload_n 0, 1) := by decide +kernel
theorem dX2_landing_1 : decode cX2_landing 1 = .ok (.getfield 9, 3) := by decide +kernel
theorem dX2_landing_4 : decode cX2_landing 4 = .ok (.iconst 3, 1) := by decide +kernel
theorem dX2_landing_5 : decode cX2_landing 5 = .ok (.iaload, 1) := by decide +kernel
theorem dX2_landing_6 : decode cX2_landing 6 = .ok (.ifCond .ge 7, 3) := by decide +kernel
theorem dX2_landing_9 : decode cX2_landing 9 = .ok (.iconst 0, 1) := by decide +kernel
theorem dX2_landing_10 : decode cX2_landing 10 = .ok (.goto 19, 3) := by decide +kernel
theorem dX2_landing_13 : decode cX2_landing 13 = .ok (.aload_n 0, 1) := by decide +kernel
theorem dX2_landing_14 : decode cX2_landing 14 = .ok (.getfield 9, 3) := by decide +kernel
theorem dX2_landing_17 : decode cX2_landing 17 = .ok (.iconst 3, 1) := by decide +kernel
theorem dX2_landing_18 : decode cX2_landing 18 = .ok (.iaload, 1) := by decide +kernel
theorem dX2_landing_19 : decode cX2_landing 19 = .ok (.bipush 9, 2) := by decide +kernel
theorem dX2_landing_21 : decode cX2_landing 21 = .ok (.if_icmp .gt 7, 3) := by decide +kernel
theorem dX2_landing_24 : decode cX2_landing 24 = .ok (.iconst 1, 1) := by decide +kernel
theorem dX2_landing_25 : decode cX2_landing 25 = .ok (.goto 4, 3) := by decide +kernel
theorem dX2_landing_28 : decode cX2_landing 28 = .ok (.iconst 2, 1) := by decide +kernel
theorem dX2_landing_29 : decode cX2_landing 29 = .ok (.ireturn, 1) := by decide +kernel
theorem dX2_how_0 : decode cX2_how 0 = .ok (.aload_n 0, 1) := by decide +kernel
theorem dX2_how_1 : decode cX2_how 1 = .ok (.invokevirtual 65, 3) := by decide +kernel
theorem dX2_how_4 : decode cX2_how 4 = .ok (.istore_n 2, 1) := by decide +kernel
theorem dX2_how_5 : decode cX2_how 5 = .ok (.iload_n 2, 1) := by decide +kernel
theorem dX2_how_6 : decode cX2_how 6 = .ok (.ifCond .le 7, 3) := by decide +kernel
theorem dX2_how_9 : decode cX2_how 9 = .ok (.iload_n 2, 1) := by decide +kernel
theorem dX2_how_10 : decode cX2_how 10 = .ok (.iconst 1, 1) := by decide +kernel
theorem dX2_how_11 : decode cX2_how 11 = .ok (.iadd, 1) := by decide +kernel
theorem dX2_how_12 : decode cX2_how 12 = .ok (.ireturn, 1) := by decide +kernel
theorem dX2_how_13 : decode cX2_how 13 = .ok (.aload_n 0, 1) := by decide +kernel
theorem dX2_how_14 : decode cX2_how 14 = .ok (.getfield 35, 3) := by decide +kernel
theorem dX2_how_17 : decode cX2_how 17 = .ok (.invokestatic 69, 3) := by decide +kernel
theorem dX2_how_20 : decode cX2_how 20 = .ok (.iload_n 1, 1) := by decide +kernel
theorem dX2_how_21 : decode cX2_how 21 = .ok (.imul, 1) := by decide +kernel
theorem dX2_how_22 : decode cX2_how 22 = .ok (.aload_n 0, 1) := by decide +kernel
theorem dX2_how_23 : decode cX2_how 23 = .ok (.getfield 31, 3) := by decide +kernel
theorem dX2_how_26 : decode cX2_how 26 = .ok (.if_icmp .gt 7, 3) := by decide +kernel
theorem dX2_how_29 : decode cX2_how 29 = .ok (.iconst 0, 1) := by decide +kernel
theorem dX2_how_30 : decode cX2_how 30 = .ok (.goto 4, 3) := by decide +kernel
theorem dX2_how_33 : decode cX2_how 33 = .ok (.iconst 4, 1) := by decide +kernel
theorem dX2_how_34 : decode cX2_how 34 = .ok (.ireturn, 1) := by decide +kernel
theorem dX3_init_0 : decode cX3_init 0 = .ok (.aload_n 0, 1) := by decide +kernel
theorem dX3_init_1 : decode cX3_init 1 = .ok (.invokespecial 1, 3) := by decide +kernel
theorem dX3_init_4 : decode cX3_init 4 = .ok (.aload_n 0, 1) := by decide +kernel
theorem dX3_init_5 : decode cX3_init 5 = .ok (.bipush 16, 2) := by decide +kernel
theorem dX3_init_7 : decode cX3_init 7 = .ok (.newarray .int, 2) := by decide +kernel
theorem dX3_init_9 : decode cX3_init 9 = .ok (.putfield 9, 3) := by decide +kernel
theorem dX3_init_12 : decode cX3_init 12 = .ok (.aload_n 0, 1) := by decide +kernel
theorem dX3_init_13 : decode cX3_init 13 = .ok (.bipush 16, 2) := by decide +kernel
theorem dX3_init_15 : decode cX3_init 15 = .ok (.newarray .int, 2) := by decide +kernel
theorem dX3_init_17 : decode cX3_init 17 = .ok (.putfield 13, 3) := by decide +kernel
theorem dX3_init_20 : decode cX3_init 20 = .ok (.aload_n 0, 1) := by decide +kernel
theorem dX3_init_21 : decode cX3_init 21 = .ok (.bipush 16, 2) := by decide +kernel
theorem dX3_init_23 : decode cX3_init 23 = .ok (.newarray .int, 2) := by decide +kernel
theorem dX3_init_25 : decode cX3_init 25 = .ok (.putfield 16, 3) := by decide +kernel
theorem dX3_init_28 : decode cX3_init 28 = .ok (.aload_n 0, 1) := by decide +kernel
theorem dX3_init_29 : decode cX3_init 29 = .ok (.bipush 16, 2) := by decide +kernel
theorem dX3_init_31 : decode cX3_init 31 = .ok (.newarray .int, 2) := by decide +kernel
theorem dX3_init_33 : decode cX3_init 33 = .ok (.putfield 19, 3) := by decide +kernel
theorem dX3_init_36 : decode cX3_init 36 = .ok (.aload_n 0, 1) := by decide +kernel
theorem dX3_init_37 : decode cX3_init 37 = .ok (.sipush 400, 3) := by decide +kernel
theorem dX3_init_40 : decode cX3_init 40 = .ok (.newarray .int, 2) := by decide +kernel
theorem dX3_init_42 : decode cX3_init 42 = .ok (.putfield 24, 3) := by decide +kernel
theorem dX3_init_45 : decode cX3_init 45 = .ok (.aload_n 0, 1) := by decide +kernel
theorem dX3_init_46 : decode cX3_init 46 = .ok (.bipush 32, 2) := by decide +kernel
theorem dX3_init_48 : decode cX3_init 48 = .ok (.newarray .int, 2) := by decide +kernel
theorem dX3_init_50 : decode cX3_init 50 = .ok (.putfield 27, 3) := by decide +kernel
theorem dX3_init_53 : decode cX3_init 53 = .ok (.return_, 1) := by decide +kernel
theorem dX3_clear_0 : decode cX3_clear 0 = .ok (.aload_n 0, 1) := by decide +kernel
theorem dX3_clear_1 : decode cX3_clear 1 = .ok (.iconst 0, 1) := by decide +kernel
theorem dX3_clear_2 : decode cX3_clear 2 = .ok (.putfield 30, 3) := by decide +kernel
theorem dX3_clear_5 : decode cX3_clear 5 = .ok (.aload_n 0, 1) := by decide +kernel
theorem dX3_clear_6 : decode cX3_clear 6 = .ok (.iconst 0, 1) := by decide +kernel
theorem dX3_clear_7 : decode cX3_clear 7 = .ok (.putfield 34, 3) := by decide +kernel
theorem dX3_clear_10 : decode cX3_clear 10 = .ok (.return_, 1) := by decide +kernel
theorem dX3_copy_0 : decode cX3_copy 0 = .ok (.aload_n 0, 1) := by decide +kernel
theorem dX3_copy_1 : decode cX3_copy 1 = .ok (.aload_n 1, 1) := by decide +kernel
theorem dX3_copy_2 : decode cX3_copy 2 = .ok (.getfield 30, 3) := by decide +kernel
theorem dX3_copy_5 : decode cX3_copy 5 = .ok (.putfield 30, 3) := by decide +kernel
theorem dX3_copy_8 : decode cX3_copy 8 = .ok (.aload_n 0, 1) := by decide +kernel
theorem dX3_copy_9 : decode cX3_copy 9 = .ok (.aload_n 1, 1) := by decide +kernel
theorem dX3_copy_10 : decode cX3_copy 10 = .ok (.getfield 34, 3) := by decide +kernel
theorem dX3_copy_13 : decode cX3_copy 13 = .ok (.putfield 34, 3) := by decide +kernel
theorem dX3_copy_16 : decode cX3_copy 16 = .ok (.aload_n 1, 1) := by decide +kernel
theorem dX3_copy_17 : decode cX3_copy 17 = .ok (.getfield 9, 3) := by decide +kernel
theorem dX3_copy_20 : decode cX3_copy 20 = .ok (.iconst 0, 1) := by decide +kernel
theorem dX3_copy_21 : decode cX3_copy 21 = .ok (.aload_n 0, 1) := by decide +kernel
theorem dX3_copy_22 : decode cX3_copy 22 = .ok (.getfield 9, 3) := by decide +kernel
theorem dX3_copy_25 : decode cX3_copy 25 = .ok (.iconst 0, 1) := by decide +kernel
theorem dX3_copy_26 : decode cX3_copy 26 = .ok (.aload_n 0, 1) := by decide +kernel
theorem dX3_copy_27 : decode cX3_copy 27 = .ok (.getfield 9, 3) := by decide +kernel
theorem dX3_copy_30 : decode cX3_copy 30 = .ok (.arraylength, 1) := by decide +kernel
theorem dX3_copy_31 : decode cX3_copy 31 = .ok (.invokestatic 37, 3) := by decide +kernel
theorem dX3_copy_34 : decode cX3_copy 34 = .ok (.aload_n 1, 1) := by decide +kernel
theorem dX3_copy_35 : decode cX3_copy 35 = .ok (.getfield 13, 3) := by decide +kernel
theorem dX3_copy_38 : decode cX3_copy 38 = .ok (.iconst 0, 1) := by decide +kernel
theorem dX3_copy_39 : decode cX3_copy 39 = .ok (.aload_n 0, 1) := by decide +kernel
theorem dX3_copy_40 : decode cX3_copy 40 = .ok (.getfield 13, 3) := by decide +kernel
theorem dX3_copy_43 : decode cX3_copy 43 = .ok (.iconst 0, 1) := by decide +kernel
theorem dX3_copy_44 : decode cX3_copy 44 = .ok (.aload_n 0, 1) := by decide +kernel
theorem dX3_copy_45 : decode cX3_copy 45 = .ok (.getfield 13, 3) := by decide +kernel
theorem dX3_copy_48 : decode cX3_copy 48 = .ok (.arraylength, 1) := by decide +kernel
theorem dX3_copy_49 : decode cX3_copy 49 = .ok (.invokestatic 37, 3) := by decide +kernel
theorem dX3_copy_52 : decode cX3_copy 52 = .ok (.aload_n 1, 1) := by decide +kernel
theorem dX3_copy_53 : decode cX3_copy 53 = .ok (.getfield 16, 3) := by decide +kernel
theorem dX3_copy_56 : decode cX3_copy 56 = .ok (.iconst 0, 1) := by decide +kernel
theorem dX3_copy_57 : decode cX3_copy 57 = .ok (.aload_n 0, 1) := by decide +kernel
theorem dX3_copy_58 : decode cX3_copy 58 = .ok (.getfield 16, 3) := by decide +kernel
theorem dX3_copy_61 : decode cX3_copy 61 = .ok (.iconst 0, 1) := by decide +kernel
theorem dX3_copy_62 : decode cX3_copy 62 = .ok (.aload_n 0, 1) := by decide +kernel
theorem dX3_copy_63 : decode cX3_copy 63 = .ok (.getfield 16, 3) := by decide +kernel
theorem dX3_copy_66 : decode cX3_copy 66 = .ok (.arraylength, 1) := by decide +kernel
theorem dX3_copy_67 : decode cX3_copy 67 = .ok (.invokestatic 37, 3) := by decide +kernel
theorem dX3_copy_70 : decode cX3_copy 70 = .ok (.aload_n 1, 1) := by decide +kernel
theorem dX3_copy_71 : decode cX3_copy 71 = .ok (.getfield 19, 3) := by decide +kernel
theorem dX3_copy_74 : decode cX3_copy 74 = .ok (.iconst 0, 1) := by decide +kernel
theorem dX3_copy_75 : decode cX3_copy 75 = .ok (.aload_n 0, 1) := by decide +kernel
theorem dX3_copy_76 : decode cX3_copy 76 = .ok (.getfield 19, 3) := by decide +kernel
theorem dX3_copy_79 : decode cX3_copy 79 = .ok (.iconst 0, 1) := by decide +kernel
theorem dX3_copy_80 : decode cX3_copy 80 = .ok (.aload_n 0, 1) := by decide +kernel
theorem dX3_copy_81 : decode cX3_copy 81 = .ok (.getfield 19, 3) := by decide +kernel
theorem dX3_copy_84 : decode cX3_copy 84 = .ok (.arraylength, 1) := by decide +kernel
theorem dX3_copy_85 : decode cX3_copy 85 = .ok (.invokestatic 37, 3) := by decide +kernel
theorem dX3_copy_88 : decode cX3_copy 88 = .ok (.aload_n 1, 1) := by decide +kernel
theorem dX3_copy_89 : decode cX3_copy 89 = .ok (.getfield 24, 3) := by decide +kernel
theorem dX3_copy_92 : decode cX3_copy 92 = .ok (.iconst 0, 1) := by decide +kernel
theorem dX3_copy_93 : decode cX3_copy 93 = .ok (.aload_n 0, 1) := by decide +kernel
theorem dX3_copy_94 : decode cX3_copy 94 = .ok (.getfield 24, 3) := by decide +kernel
theorem dX3_copy_97 : decode cX3_copy 97 = .ok (.iconst 0, 1) := by decide +kernel
theorem dX3_copy_98 : decode cX3_copy 98 = .ok (.aload_n 0, 1) := by decide +kernel
theorem dX3_copy_99 : decode cX3_copy 99 = .ok (.getfield 24, 3) := by decide +kernel
theorem dX3_copy_102 : decode cX3_copy 102 = .ok (.arraylength, 1) := by decide +kernel
theorem dX3_copy_103 : decode cX3_copy 103 = .ok (.invokestatic 37, 3) := by decide +kernel
theorem dX3_copy_106 : decode cX3_copy 106 = .ok (.return_, 1) := by decide +kernel
theorem dX3_beginLine_0 : decode cX3_beginLine 0 = .ok (.aload_n 0, 1) := by decide +kernel
theorem dX3_beginLine_1 : decode cX3_beginLine 1 = .ok (.getfield 30, 3) := by decide +kernel
theorem dX3_beginLine_4 : decode cX3_beginLine 4 = .ok (.bipush 16, 2) := by decide +kernel
theorem dX3_beginLine_6 : decode cX3_beginLine 6 = .ok (.if_icmp .ge 26, 3) := by decide +kernel
theorem dX3_beginLine_9 : decode cX3_beginLine 9 = .ok (.aload_n 0, 1) := by decide +kernel
theorem dX3_beginLine_10 : decode cX3_beginLine 10 = .ok (.getfield 9, 3) := by decide +kernel
theorem dX3_beginLine_13 : decode cX3_beginLine 13 = .ok (.aload_n 0, 1) := by decide +kernel
theorem dX3_beginLine_14 : decode cX3_beginLine 14 = .ok (.getfield 30, 3) := by decide +kernel
theorem dX3_beginLine_17 : decode cX3_beginLine 17 = .ok (.iload_n 1, 1) := by decide +kernel
theorem dX3_beginLine_18 : decode cX3_beginLine 18 = .ok (.iastore, 1) := by decide +kernel
theorem dX3_beginLine_19 : decode cX3_beginLine 19 = .ok (.aload_n 0, 1) := by decide +kernel
theorem dX3_beginLine_20 : decode cX3_beginLine 20 = .ok (.getfield 13, 3) := by decide +kernel
theorem dX3_beginLine_23 : decode cX3_beginLine 23 = .ok (.aload_n 0, 1) := by decide +kernel
theorem dX3_beginLine_24 : decode cX3_beginLine 24 = .ok (.getfield 30, 3) := by decide +kernel
theorem dX3_beginLine_27 : decode cX3_beginLine 27 = .ok (.aload_n 0, 1) := by decide +kernel
theorem dX3_beginLine_28 : decode cX3_beginLine 28 = .ok (.getfield 34, 3) := by decide +kernel
theorem dX3_beginLine_31 : decode cX3_beginLine 31 = .ok (.iastore, 1) := by decide +kernel
theorem dX3_beginLine_32 : decode cX3_beginLine 32 = .ok (.return_, 1) := by decide +kernel
theorem dX3_beginWhen_0 : decode cX3_beginWhen 0 = .ok (.aload_n 0, 1) := by decide +kernel
theorem dX3_beginWhen_1 : decode cX3_beginWhen 1 = .ok (.getfield 30, 3) := by decide +kernel
theorem dX3_beginWhen_4 : decode cX3_beginWhen 4 = .ok (.bipush 16, 2) := by decide +kernel
theorem dX3_beginWhen_6 : decode cX3_beginWhen 6 = .ok (.if_icmp .ge 16, 3) := by decide +kernel
theorem dX3_beginWhen_9 : decode cX3_beginWhen 9 = .ok (.aload_n 0, 1) := by decide +kernel
theorem dX3_beginWhen_10 : decode cX3_beginWhen 10 = .ok (.getfield 16, 3) := by decide +kernel
theorem dX3_beginWhen_13 : decode cX3_beginWhen 13 = .ok (.aload_n 0, 1) := by decide +kernel
theorem dX3_beginWhen_14 : decode cX3_beginWhen 14 = .ok (.getfield 30, 3) := by decide +kernel
theorem dX3_beginWhen_17 : decode cX3_beginWhen 17 = .ok (.aload_n 0, 1) := by decide +kernel
theorem dX3_beginWhen_18 : decode cX3_beginWhen 18 = .ok (.getfield 34, 3) := by decide +kernel
theorem dX3_beginWhen_21 : decode cX3_beginWhen 21 = .ok (.iastore, 1) := by decide +kernel
theorem dX3_beginWhen_22 : decode cX3_beginWhen 22 = .ok (.return_, 1) := by decide +kernel
theorem dX3_endLine_0 : decode cX3_endLine 0 = .ok (.aload_n 0, 1) := by decide +kernel
theorem dX3_endLine_1 : decode cX3_endLine 1 = .ok (.getfield 30, 3) := by decide +kernel
theorem dX3_endLine_4 : decode cX3_endLine 4 = .ok (.bipush 16, 2) := by decide +kernel
theorem dX3_endLine_6 : decode cX3_endLine 6 = .ok (.if_icmp .ge 26, 3) := by decide +kernel
theorem dX3_endLine_9 : decode cX3_endLine 9 = .ok (.aload_n 0, 1) := by decide +kernel
theorem dX3_endLine_10 : decode cX3_endLine 10 = .ok (.getfield 19, 3) := by decide +kernel
theorem dX3_endLine_13 : decode cX3_endLine 13 = .ok (.aload_n 0, 1) := by decide +kernel
theorem dX3_endLine_14 : decode cX3_endLine 14 = .ok (.getfield 30, 3) := by decide +kernel
theorem dX3_endLine_17 : decode cX3_endLine 17 = .ok (.aload_n 0, 1) := by decide +kernel
theorem dX3_endLine_18 : decode cX3_endLine 18 = .ok (.getfield 34, 3) := by decide +kernel
theorem dX3_endLine_21 : decode cX3_endLine 21 = .ok (.iastore, 1) := by decide +kernel
theorem dX3_endLine_22 : decode cX3_endLine 22 = .ok (.aload_n 0, 1) := by decide +kernel
theorem dX3_endLine_23 : decode cX3_endLine 23 = .ok (.dup, 1) := by decide +kernel
theorem dX3_endLine_24 : decode cX3_endLine 24 = .ok (.getfield 30, 3) := by decide +kernel
theorem dX3_endLine_27 : decode cX3_endLine 27 = .ok (.iconst 1, 1) := by decide +kernel
theorem dX3_endLine_28 : decode cX3_endLine 28 = .ok (.iadd, 1) := by decide +kernel
theorem dX3_endLine_29 : decode cX3_endLine 29 = .ok (.putfield 30, 3) := by decide +kernel
theorem dX3_endLine_32 : decode cX3_endLine 32 = .ok (.return_, 1) := by decide +kernel
theorem dX3_put_0 : decode cX3_put 0 = .ok (.aload_n 0, 1) := by decide +kernel
theorem dX3_put_1 : decode cX3_put 1 = .ok (.getfield 34, 3) := by decide +kernel
theorem dX3_put_4 : decode cX3_put 4 = .ok (.aload_n 0, 1) := by decide +kernel
theorem dX3_put_5 : decode cX3_put 5 = .ok (.getfield 24, 3) := by decide +kernel
theorem dX3_put_8 : decode cX3_put 8 = .ok (.arraylength, 1) := by decide +kernel
theorem dX3_put_9 : decode cX3_put 9 = .ok (.if_icmp .ge 28, 3) := by decide +kernel
theorem dX3_put_12 : decode cX3_put 12 = .ok (.aload_n 0, 1) := by decide +kernel
theorem dX3_put_13 : decode cX3_put 13 = .ok (.getfield 24, 3) := by decide +kernel
theorem dX3_put_16 : decode cX3_put 16 = .ok (.aload_n 0, 1) := by decide +kernel
theorem dX3_put_17 : decode cX3_put 17 = .ok (.getfield 34, 3) := by decide +kernel
theorem dX3_put_20 : decode cX3_put 20 = .ok (.iload_n 1, 1) := by decide +kernel
theorem dX3_put_21 : decode cX3_put 21 = .ok (.bipush 16, 2) := by decide +kernel
theorem dX3_put_23 : decode cX3_put 23 = .ok (.iload_n 2, 1) := by decide +kernel
theorem dX3_put_24 : decode cX3_put 24 = .ok (.imul, 1) := by decide +kernel
theorem dX3_put_25 : decode cX3_put 25 = .ok (.iadd, 1) := by decide +kernel
theorem dX3_put_26 : decode cX3_put 26 = .ok (.iastore, 1) := by decide +kernel
theorem dX3_put_27 : decode cX3_put 27 = .ok (.aload_n 0, 1) := by decide +kernel
theorem dX3_put_28 : decode cX3_put 28 = .ok (.dup, 1) := by decide +kernel
theorem dX3_put_29 : decode cX3_put 29 = .ok (.getfield 34, 3) := by decide +kernel
theorem dX3_put_32 : decode cX3_put 32 = .ok (.iconst 1, 1) := by decide +kernel
theorem dX3_put_33 : decode cX3_put 33 = .ok (.iadd, 1) := by decide +kernel
theorem dX3_put_34 : decode cX3_put 34 = .ok (.putfield 34, 3) := by decide +kernel
theorem dX3_put_37 : decode cX3_put 37 = .ok (.return_, 1) := by decide +kernel
theorem dX3_tell_0 : decode cX3_tell 0 = .ok (.iconst 0, 1) := by decide +kernel
theorem dX3_tell_1 : decode cX3_tell 1 = .ok (.istore_n 3, 1) := by decide +kernel
theorem dX3_tell_2 : decode cX3_tell 2 = .ok (.iload_n 3, 1) := by decide +kernel
theorem dX3_tell_3 : decode cX3_tell 3 = .ok (.aload_n 0, 1) := by decide +kernel
theorem dX3_tell_4 : decode cX3_tell 4 = .ok (.getfield 30, 3) := by decide +kernel
theorem dX3_tell_7 : decode cX3_tell 7 = .ok (.if_icmp .ge 78, 3) := by decide +kernel
theorem dX3_tell_10 : decode cX3_tell 10 = .ok (.iload_n 3, 1) := by decide +kernel
theorem dX3_tell_11 : decode cX3_tell 11 = .ok (.bipush 16, 2) := by decide +kernel
theorem dX3_tell_13 : decode cX3_tell 13 = .ok (.if_icmp .ge 72, 3) := by decide +kernel
theorem dX3_tell_16 : decode cX3_tell 16 = .ok (.aload_n 0, 1) := by decide +kernel
theorem dX3_tell_17 : decode cX3_tell 17 = .ok (.getfield 9, 3) := by decide +kernel
theorem dX3_tell_20 : decode cX3_tell 20 = .ok (.iload_n 3, 1) := by decide +kernel
theorem dX3_tell_21 : decode cX3_tell 21 = .ok (.iaload, 1) := by decide +kernel
theorem dX3_tell_22 : decode cX3_tell 22 = .ok (.iload_n 1, 1) := by decide +kernel
theorem dX3_tell_23 : decode cX3_tell 23 = .ok (.if_icmp .ne 56, 3) := by decide +kernel
theorem dX3_tell_26 : decode cX3_tell 26 = .ok (.aload_n 0, 1) := by decide +kernel
theorem dX3_tell_27 : decode cX3_tell 27 = .ok (.getfield 16, 3) := by decide +kernel
theorem dX3_tell_30 : decode cX3_tell 30 = .ok (.iload_n 3, 1) := by decide +kernel
theorem dX3_tell_31 : decode cX3_tell 31 = .ok (.iaload, 1) := by decide +kernel
theorem dX3_tell_32 : decode cX3_tell 32 = .ok (.aload_n 0, 1) := by decide +kernel
theorem dX3_tell_33 : decode cX3_tell 33 = .ok (.getfield 19, 3) := by decide +kernel
theorem dX3_tell_36 : decode cX3_tell 36 = .ok (.iload_n 3, 1) := by decide +kernel
theorem dX3_tell_37 : decode cX3_tell 37 = .ok (.iaload, 1) := by decide +kernel
theorem dX3_tell_38 : decode cX3_tell 38 = .ok (.if_icmp .ge 23, 3) := by decide +kernel
theorem dX3_tell_41 : decode cX3_tell 41 = .ok (.aload_n 0, 1) := by decide +kernel
theorem dX3_tell_42 : decode cX3_tell 42 = .ok (.aload_n 0, 1) := by decide +kernel
theorem dX3_tell_43 : decode cX3_tell 43 = .ok (.getfield 16, 3) := by decide +kernel
theorem dX3_tell_46 : decode cX3_tell 46 = .ok (.iload_n 3, 1) := by decide +kernel
theorem dX3_tell_47 : decode cX3_tell 47 = .ok (.iaload, 1) := by decide +kernel
theorem dX3_tell_48 : decode cX3_tell 48 = .ok (.aload_n 0, 1) := by decide +kernel
theorem dX3_tell_49 : decode cX3_tell 49 = .ok (.getfield 19, 3) := by decide +kernel
theorem dX3_tell_52 : decode cX3_tell 52 = .ok (.iload_n 3, 1) := by decide +kernel
theorem dX3_tell_53 : decode cX3_tell 53 = .ok (.iaload, 1) := by decide +kernel
theorem dX3_tell_54 : decode cX3_tell 54 = .ok (.aload_n 2, 1) := by decide +kernel
theorem dX3_tell_55 : decode cX3_tell 55 = .ok (.invokevirtual 43, 3) := by decide +kernel
theorem dX3_tell_58 : decode cX3_tell 58 = .ok (.ifCond .eq 21, 3) := by decide +kernel
theorem dX3_tell_61 : decode cX3_tell 61 = .ok (.aload_n 0, 1) := by decide +kernel
theorem dX3_tell_62 : decode cX3_tell 62 = .ok (.aload_n 0, 1) := by decide +kernel
theorem dX3_tell_63 : decode cX3_tell 63 = .ok (.getfield 13, 3) := by decide +kernel
theorem dX3_tell_66 : decode cX3_tell 66 = .ok (.iload_n 3, 1) := by decide +kernel
theorem dX3_tell_67 : decode cX3_tell 67 = .ok (.iaload, 1) := by decide +kernel
theorem dX3_tell_68 : decode cX3_tell 68 = .ok (.aload_n 0, 1) := by decide +kernel
theorem dX3_tell_69 : decode cX3_tell 69 = .ok (.getfield 16, 3) := by decide +kernel
theorem dX3_tell_72 : decode cX3_tell 72 = .ok (.iload_n 3, 1) := by decide +kernel
theorem dX3_tell_73 : decode cX3_tell 73 = .ok (.iaload, 1) := by decide +kernel
theorem dX3_tell_74 : decode cX3_tell 74 = .ok (.aload_n 2, 1) := by decide +kernel
theorem dX3_tell_75 : decode cX3_tell 75 = .ok (.invokevirtual 43, 3) := by decide +kernel
theorem dX3_tell_78 : decode cX3_tell 78 = .ok (.ireturn, 1) := by decide +kernel
theorem dX3_tell_79 : decode cX3_tell 79 = .ok (.iinc 3 1, 3) := by decide +kernel
theorem dX3_tell_82 : decode cX3_tell 82 = .ok (.goto (-80), 3) := by decide +kernel
theorem dX3_tell_85 : decode cX3_tell 85 = .ok (.iconst 0, 1) := by decide +kernel
theorem dX3_tell_86 : decode cX3_tell 86 = .ok (.ireturn, 1) := by decide +kernel
theorem dX3_count_0 : decode cX3_count 0 = .ok (.iconst 0, 1) := by decide +kernel
theorem dX3_count_1 : decode cX3_count 1 = .ok (.istore 4, 2) := by decide +kernel
theorem dX3_count_3 : decode cX3_count 3 = .ok (.iload_n 1, 1) := by decide +kernel
theorem dX3_count_4 : decode cX3_count 4 = .ok (.istore 5, 2) := by decide +kernel
theorem dX3_count_6 : decode cX3_count 6 = .ok (.iload 5, 2) := by decide +kernel
theorem dX3_count_8 : decode cX3_count 8 = .ok (.iload_n 2, 1) := by decide +kernel
theorem dX3_count_9 : decode cX3_count 9 = .ok (.if_icmp .ge 227, 3) := by decide +kernel
theorem dX3_count_12 : decode cX3_count 12 = .ok (.iload 5, 2) := by decide +kernel
theorem dX3_count_14 : decode cX3_count 14 = .ok (.aload_n 0, 1) := by decide +kernel
theorem dX3_count_15 : decode cX3_count 15 = .ok (.getfield 24, 3) := by decide +kernel
theorem dX3_count_18 : decode cX3_count 18 = .ok (.arraylength, 1) := by decide +kernel
theorem dX3_count_19 : decode cX3_count 19 = .ok (.if_icmp .ge 217, 3) := by decide +kernel
theorem dX3_count_22 : decode cX3_count 22 = .ok (.aload_n 0, 1) := by decide +kernel
theorem dX3_count_23 : decode cX3_count 23 = .ok (.getfield 24, 3) := by decide +kernel
theorem dX3_count_26 : decode cX3_count 26 = .ok (.iload 5, 2) := by decide +kernel
theorem dX3_count_28 : decode cX3_count 28 = .ok (.iaload, 1) := by decide +kernel
theorem dX3_count_29 : decode cX3_count 29 = .ok (.bipush 15, 2) := by decide +kernel
theorem dX3_count_31 : decode cX3_count 31 = .ok (.iand, 1) := by decide +kernel
theorem dX3_count_32 : decode cX3_count 32 = .ok (.istore 6, 2) := by decide +kernel
theorem dX3_count_34 : decode cX3_count 34 = .ok (.aload_n 0, 1) := by decide +kernel
theorem dX3_count_35 : decode cX3_count 35 = .ok (.getfield 24, 3) := by decide +kernel
theorem dX3_count_38 : decode cX3_count 38 = .ok (.iload 5, 2) := by decide +kernel
theorem dX3_count_40 : decode cX3_count 40 = .ok (.iaload, 1) := by decide +kernel
theorem dX3_count_41 : decode cX3_count 41 = .ok (.iconst 4, 1) := by decide +kernel
theorem dX3_count_42 : decode cX3_count 42 = .ok (.ishr, 1) := by decide +kernel
theorem dX3_count_43 : decode cX3_count 43 = .ok (.istore 7, 2) := by decide +kernel
theorem dX3_count_45 : decode cX3_count 45 = .ok (.iload 6, 2) := by decide +kernel
theorem dX3_count_47 : decode cX3_count 47 = .ok (.iconst 1, 1) := by decide +kernel
theorem dX3_count_48 : decode cX3_count 48 = .ok (.if_icmp .gt 53, 3) := by decide +kernel
theorem dX3_count_51 : decode cX3_count 51 = .ok (.iload 4, 2) := by decide +kernel
theorem dX3_count_53 : decode cX3_count 53 = .ok (.aload_n 0, 1) := by decide +kernel
theorem dX3_count_54 : decode cX3_count 54 = .ok (.getfield 27, 3) := by decide +kernel
theorem dX3_count_57 : decode cX3_count 57 = .ok (.arraylength, 1) := by decide +kernel
theorem dX3_count_58 : decode cX3_count 58 = .ok (.if_icmp .lt 5, 3) := by decide +kernel
theorem dX3_count_61 : decode cX3_count 61 = .ok (.iconst 0, 1) := by decide +kernel
theorem dX3_count_62 : decode cX3_count 62 = .ok (.ireturn, 1) := by decide +kernel
theorem dX3_count_63 : decode cX3_count 63 = .ok (.aload_n 0, 1) := by decide +kernel
theorem dX3_count_64 : decode cX3_count 64 = .ok (.getfield 27, 3) := by decide +kernel
theorem dX3_count_67 : decode cX3_count 67 = .ok (.iload 4, 2) := by decide +kernel
theorem dX3_count_69 : decode cX3_count 69 = .ok (.iload 6, 2) := by decide +kernel
theorem dX3_count_71 : decode cX3_count 71 = .ok (.ifCond .ne 8, 3) := by decide +kernel
theorem dX3_count_74 : decode cX3_count 74 = .ok (.iload 7, 2) := by decide +kernel
theorem dX3_count_76 : decode cX3_count 76 = .ok (.goto 18, 3) := by decide +kernel
theorem dX3_count_79 : decode cX3_count 79 = .ok (.iload 7, 2) := by decide +kernel
theorem dX3_count_81 : decode cX3_count 81 = .ok (.aload_n 3, 1) := by decide +kernel
theorem dX3_count_82 : decode cX3_count 82 = .ok (.arraylength, 1) := by decide +kernel
theorem dX3_count_83 : decode cX3_count 83 = .ok (.if_icmp .ge 10, 3) := by decide +kernel
theorem dX3_count_86 : decode cX3_count 86 = .ok (.aload_n 3, 1) := by decide +kernel
theorem dX3_count_87 : decode cX3_count 87 = .ok (.iload 7, 2) := by decide +kernel
theorem dX3_count_89 : decode cX3_count 89 = .ok (.iaload, 1) := by decide +kernel
theorem dX3_count_90 : decode cX3_count 90 = .ok (.goto 4, 3) := by decide +kernel
theorem dX3_count_93 : decode cX3_count 93 = .ok (.iconst 0, 1) := by decide +kernel
theorem dX3_count_94 : decode cX3_count 94 = .ok (.iastore, 1) := by decide +kernel
theorem dX3_count_95 : decode cX3_count 95 = .ok (.iinc 4 1, 3) := by decide +kernel
theorem dX3_count_98 : decode cX3_count 98 = .ok (.goto 132, 3) := by decide +kernel
theorem dX3_count_101 : decode cX3_count 101 = .ok (.iload 4, 2) := by decide +kernel
theorem dX3_count_103 : decode cX3_count 103 = .ok (.iconst 1, 1) := by decide +kernel
theorem dX3_count_104 : decode cX3_count 104 = .ok (.if_icmp .lt 22, 3) := by decide +kernel
theorem dX3_count_107 : decode cX3_count 107 = .ok (.iload 6, 2) := by decide +kernel
theorem dX3_count_109 : decode cX3_count 109 = .ok (.iconst 5, 1) := by decide +kernel
theorem dX3_count_110 : decode cX3_count 110 = .ok (.if_icmp .eq 18, 3) := by decide +kernel
theorem dX3_count_113 : decode cX3_count 113 = .ok (.iload 6, 2) := by decide +kernel
theorem dX3_count_115 : decode cX3_count 115 = .ok (.bipush 9, 2) := by decide +kernel
theorem dX3_count_117 : decode cX3_count 117 = .ok (.if_icmp .eq 11, 3) := by decide +kernel
theorem dX3_count_120 : decode cX3_count 120 = .ok (.iload 4, 2) := by decide +kernel
theorem dX3_count_122 : decode cX3_count 122 = .ok (.iconst 2, 1) := by decide +kernel
theorem dX3_count_123 : decode cX3_count 123 = .ok (.if_icmp .ge 5, 3) := by decide +kernel
theorem dX3_count_126 : decode cX3_count 126 = .ok (.iconst 0, 1) := by decide +kernel
theorem dX3_count_127 : decode cX3_count 127 = .ok (.ireturn, 1) := by decide +kernel
theorem dX3_count_128 : decode cX3_count 128 = .ok (.iload 6, 2) := by decide +kernel
theorem dX3_count_130 : decode cX3_count 130 = .ok (.iconst 5, 1) := by decide +kernel
theorem dX3_count_131 : decode cX3_count 131 = .ok (.if_icmp .ne 36, 3) := by decide +kernel
theorem dX3_count_134 : decode cX3_count 134 = .ok (.aload_n 0, 1) := by decide +kernel
theorem dX3_count_135 : decode cX3_count 135 = .ok (.getfield 27, 3) := by decide +kernel
theorem dX3_count_138 : decode cX3_count 138 = .ok (.iload 4, 2) := by decide +kernel
theorem dX3_count_140 : decode cX3_count 140 = .ok (.iconst 1, 1) := by decide +kernel
theorem dX3_count_141 : decode cX3_count 141 = .ok (.isub, 1) := by decide +kernel
theorem dX3_count_142 : decode cX3_count 142 = .ok (.iload 7, 2) := by decide +kernel
theorem dX3_count_144 : decode cX3_count 144 = .ok (.ifCond .le 18, 3) := by decide +kernel
theorem dX3_count_147 : decode cX3_count 147 = .ok (.aload_n 0, 1) := by decide +kernel
theorem dX3_count_148 : decode cX3_count 148 = .ok (.getfield 27, 3) := by decide +kernel
theorem dX3_count_151 : decode cX3_count 151 = .ok (.iload 4, 2) := by decide +kernel
theorem dX3_count_153 : decode cX3_count 153 = .ok (.iconst 1, 1) := by decide +kernel
theorem dX3_count_154 : decode cX3_count 154 = .ok (.isub, 1) := by decide +kernel
theorem dX3_count_155 : decode cX3_count 155 = .ok (.iaload, 1) := by decide +kernel
theorem dX3_count_156 : decode cX3_count 156 = .ok (.iload 7, 2) := by decide +kernel
theorem dX3_count_158 : decode cX3_count 158 = .ok (.idiv, 1) := by decide +kernel
theorem dX3_count_159 : decode cX3_count 159 = .ok (.goto 4, 3) := by decide +kernel
theorem dX3_count_162 : decode cX3_count 162 = .ok (.iconst 0, 1) := by decide +kernel
theorem dX3_count_163 : decode cX3_count 163 = .ok (.iastore, 1) := by decide +kernel
theorem dX3_count_164 : decode cX3_count 164 = .ok (.goto 66, 3) := by decide +kernel
theorem dX3_count_167 : decode cX3_count 167 = .ok (.iload 6, 2) := by decide +kernel
theorem dX3_count_169 : decode cX3_count 169 = .ok (.bipush 9, 2) := by decide +kernel
theorem dX3_count_171 : decode cX3_count 171 = .ok (.if_icmp .ne 26, 3) := by decide +kernel
theorem dX3_count_174 : decode cX3_count 174 = .ok (.aload_n 0, 1) := by decide +kernel
theorem dX3_count_175 : decode cX3_count 175 = .ok (.getfield 27, 3) := by decide +kernel
theorem dX3_count_178 : decode cX3_count 178 = .ok (.iload 4, 2) := by decide +kernel
theorem dX3_count_180 : decode cX3_count 180 = .ok (.iconst 1, 1) := by decide +kernel
theorem dX3_count_181 : decode cX3_count 181 = .ok (.isub, 1) := by decide +kernel
theorem dX3_count_182 : decode cX3_count 182 = .ok (.iconst 1, 1) := by decide +kernel
theorem dX3_count_183 : decode cX3_count 183 = .ok (.aload_n 0, 1) := by decide +kernel
theorem dX3_count_184 : decode cX3_count 184 = .ok (.getfield 27, 3) := by decide +kernel
theorem dX3_count_187 : decode cX3_count 187 = .ok (.iload 4, 2) := by decide +kernel
theorem dX3_count_189 : decode cX3_count 189 = .ok (.iconst 1, 1) := by decide +kernel
theorem dX3_count_190 : decode cX3_count 190 = .ok (.isub, 1) := by decide +kernel
theorem dX3_count_191 : decode cX3_count 191 = .ok (.iaload, 1) := by decide +kernel
theorem dX3_count_192 : decode cX3_count 192 = .ok (.isub, 1) := by decide +kernel
theorem dX3_count_193 : decode cX3_count 193 = .ok (.iastore, 1) := by decide +kernel
theorem dX3_count_194 : decode cX3_count 194 = .ok (.goto 36, 3) := by decide +kernel
theorem dX3_count_197 : decode cX3_count 197 = .ok (.iinc 4 (-1), 3) := by decide +kernel
theorem dX3_count_200 : decode cX3_count 200 = .ok (.aload_n 0, 1) := by decide +kernel
theorem dX3_count_201 : decode cX3_count 201 = .ok (.getfield 27, 3) := by decide +kernel
theorem dX3_count_204 : decode cX3_count 204 = .ok (.iload 4, 2) := by decide +kernel
theorem dX3_count_206 : decode cX3_count 206 = .ok (.iconst 1, 1) := by decide +kernel
theorem dX3_count_207 : decode cX3_count 207 = .ok (.isub, 1) := by decide +kernel
theorem dX3_count_208 : decode cX3_count 208 = .ok (.iload 6, 2) := by decide +kernel
theorem dX3_count_210 : decode cX3_count 210 = .ok (.aload_n 0, 1) := by decide +kernel
theorem dX3_count_211 : decode cX3_count 211 = .ok (.getfield 27, 3) := by decide +kernel
theorem dX3_count_214 : decode cX3_count 214 = .ok (.iload 4, 2) := by decide +kernel
theorem dX3_count_216 : decode cX3_count 216 = .ok (.iconst 1, 1) := by decide +kernel
theorem dX3_count_217 : decode cX3_count 217 = .ok (.isub, 1) := by decide +kernel
theorem dX3_count_218 : decode cX3_count 218 = .ok (.iaload, 1) := by decide +kernel
theorem dX3_count_219 : decode cX3_count 219 = .ok (.aload_n 0, 1) := by decide +kernel
theorem dX3_count_220 : decode cX3_count 220 = .ok (.getfield 27, 3) := by decide +kernel
theorem dX3_count_223 : decode cX3_count 223 = .ok (.iload 4, 2) := by decide +kernel
theorem dX3_count_225 : decode cX3_count 225 = .ok (.iaload, 1) := by decide +kernel
theorem dX3_count_226 : decode cX3_count 226 = .ok (.invokestatic 47, 3) := by decide +kernel
theorem dX3_count_229 : decode cX3_count 229 = .ok (.iastore, 1) := by decide +kernel
theorem dX3_count_230 : decode cX3_count 230 = .ok (.iinc 5 1, 3) := by decide +kernel
theorem dX3_count_233 : decode cX3_count 233 = .ok (.goto (-227), 3) := by decide +kernel
theorem dX3_count_236 : decode cX3_count 236 = .ok (.iload 4, 2) := by decide +kernel
theorem dX3_count_238 : decode cX3_count 238 = .ok (.ifCond .le 15, 3) := by decide +kernel
theorem dX3_count_241 : decode cX3_count 241 = .ok (.aload_n 0, 1) := by decide +kernel
theorem dX3_count_242 : decode cX3_count 242 = .ok (.getfield 27, 3) := by decide +kernel
theorem dX3_count_245 : decode cX3_count 245 = .ok (.iload 4, 2) := by decide +kernel
theorem dX3_count_247 : decode cX3_count 247 = .ok (.iconst 1, 1) := by decide +kernel
theorem dX3_count_248 : decode cX3_count 248 = .ok (.isub, 1) := by decide +kernel
theorem dX3_count_249 : decode cX3_count 249 = .ok (.iaload, 1) := by decide +kernel
theorem dX3_count_250 : decode cX3_count 250 = .ok (.goto 4, 3) := by decide +kernel
theorem dX3_count_253 : decode cX3_count 253 = .ok (.iconst 0, 1) := by decide +kernel
theorem dX3_count_254 : decode cX3_count 254 = .ok (.ireturn, 1) := by decide +kernel
theorem dX3_join_0 : decode cX3_join 0 = .ok (.iload_n 0, 1) := by decide +kernel
theorem dX3_join_1 : decode cX3_join 1 = .ok (.tableswitch 100 2 10 #[51, 55, 59, 100, 63, 74, 85, 100, 96], 51) := by decide +kernel
theorem dX3_join_52 : decode cX3_join 52 = .ok (.iload_n 1, 1) := by decide +kernel
theorem dX3_join_53 : decode cX3_join 53 = .ok (.iload_n 2, 1) := by decide +kernel
theorem dX3_join_54 : decode cX3_join 54 = .ok (.iadd, 1) := by decide +kernel
theorem dX3_join_55 : decode cX3_join 55 = .ok (.ireturn, 1) := by decide +kernel
theorem dX3_join_56 : decode cX3_join 56 = .ok (.iload_n 1, 1) := by decide +kernel
theorem dX3_join_57 : decode cX3_join 57 = .ok (.iload_n 2, 1) := by decide +kernel
theorem dX3_join_58 : decode cX3_join 58 = .ok (.isub, 1) := by decide +kernel
theorem dX3_join_59 : decode cX3_join 59 = .ok (.ireturn, 1) := by decide +kernel
theorem dX3_join_60 : decode cX3_join 60 = .ok (.iload_n 1, 1) := by decide +kernel
theorem dX3_join_61 : decode cX3_join 61 = .ok (.iload_n 2, 1) := by decide +kernel
theorem dX3_join_62 : decode cX3_join 62 = .ok (.imul, 1) := by decide +kernel
theorem dX3_join_63 : decode cX3_join 63 = .ok (.ireturn, 1) := by decide +kernel
theorem dX3_join_64 : decode cX3_join 64 = .ok (.iload_n 1, 1) := by decide +kernel
theorem dX3_join_65 : decode cX3_join 65 = .ok (.iload_n 2, 1) := by decide +kernel
theorem dX3_join_66 : decode cX3_join 66 = .ok (.if_icmp .ge 7, 3) := by decide +kernel
theorem dX3_join_69 : decode cX3_join 69 = .ok (.iconst 1, 1) := by decide +kernel
theorem dX3_join_70 : decode cX3_join 70 = .ok (.goto 4, 3) := by decide +kernel
theorem dX3_join_73 : decode cX3_join 73 = .ok (.iconst 0, 1) := by decide +kernel
theorem dX3_join_74 : decode cX3_join 74 = .ok (.ireturn, 1) := by decide +kernel
theorem dX3_join_75 : decode cX3_join 75 = .ok (.iload_n 1, 1) := by decide +kernel
theorem dX3_join_76 : decode cX3_join 76 = .ok (.iload_n 2, 1) := by decide +kernel
theorem dX3_join_77 : decode cX3_join 77 = .ok (.if_icmp .ne 7, 3) := by decide +kernel
theorem dX3_join_80 : decode cX3_join 80 = .ok (.iconst 1, 1) := by decide +kernel
theorem dX3_join_81 : decode cX3_join 81 = .ok (.goto 4, 3) := by decide +kernel
theorem dX3_join_84 : decode cX3_join 84 = .ok (.iconst 0, 1) := by decide +kernel
theorem dX3_join_85 : decode cX3_join 85 = .ok (.ireturn, 1) := by decide +kernel
theorem dX3_join_86 : decode cX3_join 86 = .ok (.iload_n 1, 1) := by decide +kernel
theorem dX3_join_87 : decode cX3_join 87 = .ok (.iload_n 2, 1) := by decide +kernel
theorem dX3_join_88 : decode cX3_join 88 = .ok (.if_icmp .le 7, 3) := by decide +kernel
theorem dX3_join_91 : decode cX3_join 91 = .ok (.iconst 1, 1) := by decide +kernel
theorem dX3_join_92 : decode cX3_join 92 = .ok (.goto 4, 3) := by decide +kernel
theorem dX3_join_95 : decode cX3_join 95 = .ok (.iconst 0, 1) := by decide +kernel
theorem dX3_join_96 : decode cX3_join 96 = .ok (.ireturn, 1) := by decide +kernel
theorem dX3_join_97 : decode cX3_join 97 = .ok (.iload_n 1, 1) := by decide +kernel
theorem dX3_join_98 : decode cX3_join 98 = .ok (.iload_n 2, 1) := by decide +kernel
theorem dX3_join_99 : decode cX3_join 99 = .ok (.iand, 1) := by decide +kernel
theorem dX3_join_100 : decode cX3_join 100 = .ok (.ireturn, 1) := by decide +kernel
theorem dX3_join_101 : decode cX3_join 101 = .ok (.iload_n 1, 1) := by decide +kernel
theorem dX3_join_102 : decode cX3_join 102 = .ok (.iload_n 2, 1) := by decide +kernel
theorem dX3_join_103 : decode cX3_join 103 = .ok (.ior, 1) := by decide +kernel
theorem dX3_join_104 : decode cX3_join 104 = .ok (.ireturn, 1) := by decide +kernel
theorem dX4_init_0 : decode cX4_init 0 = .ok (.aload_n 0, 1) := by decide +kernel
theorem dX4_init_1 : decode cX4_init 1 = .ok (.invokespecial 1, 3) := by decide +kernel
theorem dX4_init_4 : decode cX4_init 4 = .ok (.aload_n 0, 1) := by decide +kernel
theorem dX4_init_5 : decode cX4_init 5 = .ok (.bipush 8, 2) := by decide +kernel
theorem dX4_init_7 : decode cX4_init 7 = .ok (.bipush 8, 2) := by decide +kernel
theorem dX4_init_9 : decode cX4_init 9 = .ok (.multianewarray 9 2, 4) := by decide +kernel
theorem dX4_init_13 : decode cX4_init 13 = .ok (.putfield 11, 3) := by decide +kernel
theorem dX4_init_16 : decode cX4_init 16 = .ok (.return_, 1) := by decide +kernel
theorem dX4_forget_0 : decode cX4_forget 0 = .ok (.aload_n 0, 1) := by decide +kernel
theorem dX4_forget_1 : decode cX4_forget 1 = .ok (.iconst 0, 1) := by decide +kernel
theorem dX4_forget_2 : decode cX4_forget 2 = .ok (.putfield 14, 3) := by decide +kernel
theorem dX4_forget_5 : decode cX4_forget 5 = .ok (.return_, 1) := by decide +kernel
theorem dX4_remember_0 : decode cX4_remember 0 = .ok (.aload_n 0, 1) := by decide +kernel
theorem dX4_remember_1 : decode cX4_remember 1 = .ok (.aload_n 0, 1) := by decide +kernel
theorem dX4_remember_2 : decode cX4_remember 2 = .ok (.getfield 18, 3) := by decide +kernel
theorem dX4_remember_5 : decode cX4_remember 5 = .ok (.iconst 1, 1) := by decide +kernel
theorem dX4_remember_6 : decode cX4_remember 6 = .ok (.iadd, 1) := by decide +kernel
theorem dX4_remember_7 : decode cX4_remember 7 = .ok (.bipush 8, 2) := by decide +kernel
theorem dX4_remember_9 : decode cX4_remember 9 = .ok (.irem, 1) := by decide +kernel
theorem dX4_remember_10 : decode cX4_remember 10 = .ok (.putfield 18, 3) := by decide +kernel
theorem dX4_remember_13 : decode cX4_remember 13 = .ok (.aload_n 0, 1) := by decide +kernel
theorem dX4_remember_14 : decode cX4_remember 14 = .ok (.bipush 8, 2) := by decide +kernel
theorem dX4_remember_16 : decode cX4_remember 16 = .ok (.aload_n 0, 1) := by decide +kernel
theorem dX4_remember_17 : decode cX4_remember 17 = .ok (.getfield 14, 3) := by decide +kernel
theorem dX4_remember_20 : decode cX4_remember 20 = .ok (.iconst 1, 1) := by decide +kernel
theorem dX4_remember_21 : decode cX4_remember 21 = .ok (.iadd, 1) := by decide +kernel
theorem dX4_remember_22 : decode cX4_remember 22 = .ok (.invokestatic 21, 3) := by decide +kernel
theorem dX4_remember_25 : decode cX4_remember 25 = .ok (.putfield 14, 3) := by decide +kernel
theorem dX4_remember_28 : decode cX4_remember 28 = .ok (.aload_n 0, 1) := by decide +kernel
theorem dX4_remember_29 : decode cX4_remember 29 = .ok (.getfield 11, 3) := by decide +kernel
theorem dX4_remember_32 : decode cX4_remember 32 = .ok (.aload_n 0, 1) := by decide +kernel
theorem dX4_remember_33 : decode cX4_remember 33 = .ok (.getfield 18, 3) := by decide +kernel
theorem dX4_remember_36 : decode cX4_remember 36 = .ok (.aaload, 1) := by decide +kernel
theorem dX4_remember_37 : decode cX4_remember 37 = .ok (.astore_n 3, 1) := by decide +kernel
theorem dX4_remember_38 : decode cX4_remember 38 = .ok (.aload_n 3, 1) := by decide +kernel
theorem dX4_remember_39 : decode cX4_remember 39 = .ok (.iconst 0, 1) := by decide +kernel
theorem dX4_remember_40 : decode cX4_remember 40 = .ok (.aload_n 1, 1) := by decide +kernel
theorem dX4_remember_41 : decode cX4_remember 41 = .ok (.getfield 27, 3) := by decide +kernel
theorem dX4_remember_44 : decode cX4_remember 44 = .ok (.iastore, 1) := by decide +kernel
theorem dX4_remember_45 : decode cX4_remember 45 = .ok (.aload_n 3, 1) := by decide +kernel
theorem dX4_remember_46 : decode cX4_remember 46 = .ok (.iconst 1, 1) := by decide +kernel
theorem dX4_remember_47 : decode cX4_remember 47 = .ok (.aload_n 1, 1) := by decide +kernel
theorem dX4_remember_48 : decode cX4_remember 48 = .ok (.getfield 32, 3) := by decide +kernel
theorem dX4_remember_51 : decode cX4_remember 51 = .ok (.iastore, 1) := by decide +kernel
theorem dX4_remember_52 : decode cX4_remember 52 = .ok (.aload_n 3, 1) := by decide +kernel
theorem dX4_remember_53 : decode cX4_remember 53 = .ok (.iconst 2, 1) := by decide +kernel
theorem dX4_remember_54 : decode cX4_remember 54 = .ok (.aload_n 1, 1) := by decide +kernel
theorem dX4_remember_55 : decode cX4_remember 55 = .ok (.getfield 35, 3) := by decide +kernel
theorem dX4_remember_58 : decode cX4_remember 58 = .ok (.iastore, 1) := by decide +kernel
theorem dX4_remember_59 : decode cX4_remember 59 = .ok (.aload_n 3, 1) := by decide +kernel
theorem dX4_remember_60 : decode cX4_remember 60 = .ok (.iconst 3, 1) := by decide +kernel
theorem dX4_remember_61 : decode cX4_remember 61 = .ok (.aload_n 1, 1) := by decide +kernel
theorem dX4_remember_62 : decode cX4_remember 62 = .ok (.getfield 38, 3) := by decide +kernel
theorem dX4_remember_65 : decode cX4_remember 65 = .ok (.iastore, 1) := by decide +kernel
theorem dX4_remember_66 : decode cX4_remember 66 = .ok (.aload_n 3, 1) := by decide +kernel
theorem dX4_remember_67 : decode cX4_remember 67 = .ok (.iconst 4, 1) := by decide +kernel
theorem dX4_remember_68 : decode cX4_remember 68 = .ok (.aload_n 2, 1) := by decide +kernel
theorem dX4_remember_69 : decode cX4_remember 69 = .ok (.getfield 41, 3) := by decide +kernel
theorem dX4_remember_72 : decode cX4_remember 72 = .ok (.iastore, 1) := by decide +kernel
theorem dX4_remember_73 : decode cX4_remember 73 = .ok (.aload_n 3, 1) := by decide +kernel
theorem dX4_remember_74 : decode cX4_remember 74 = .ok (.iconst 5, 1) := by decide +kernel
theorem dX4_remember_75 : decode cX4_remember 75 = .ok (.aload_n 2, 1) := by decide +kernel
theorem dX4_remember_76 : decode cX4_remember 76 = .ok (.getfield 46, 3) := by decide +kernel
theorem dX4_remember_79 : decode cX4_remember 79 = .ok (.iastore, 1) := by decide +kernel
theorem dX4_remember_80 : decode cX4_remember 80 = .ok (.aload_n 3, 1) := by decide +kernel
theorem dX4_remember_81 : decode cX4_remember 81 = .ok (.bipush 6, 2) := by decide +kernel
theorem dX4_remember_83 : decode cX4_remember 83 = .ok (.aload_n 2, 1) := by decide +kernel
theorem dX4_remember_84 : decode cX4_remember 84 = .ok (.getfield 49, 3) := by decide +kernel
theorem dX4_remember_87 : decode cX4_remember 87 = .ok (.iastore, 1) := by decide +kernel
theorem dX4_remember_88 : decode cX4_remember 88 = .ok (.aload_n 3, 1) := by decide +kernel
theorem dX4_remember_89 : decode cX4_remember 89 = .ok (.bipush 7, 2) := by decide +kernel
theorem dX4_remember_91 : decode cX4_remember 91 = .ok (.aload_n 2, 1) := by decide +kernel
theorem dX4_remember_92 : decode cX4_remember 92 = .ok (.getfield 52, 3) := by decide +kernel
theorem dX4_remember_95 : decode cX4_remember 95 = .ok (.iastore, 1) := by decide +kernel
theorem dX4_remember_96 : decode cX4_remember 96 = .ok (.return_, 1) := by decide +kernel
theorem dX4_goBack_0 : decode cX4_goBack 0 = .ok (.aload_n 0, 1) := by decide +kernel
theorem dX4_goBack_1 : decode cX4_goBack 1 = .ok (.getfield 11, 3) := by decide +kernel
theorem dX4_goBack_4 : decode cX4_goBack 4 = .ok (.aload_n 0, 1) := by decide +kernel
theorem dX4_goBack_5 : decode cX4_goBack 5 = .ok (.getfield 18, 3) := by decide +kernel
theorem dX4_goBack_8 : decode cX4_goBack 8 = .ok (.aaload, 1) := by decide +kernel
theorem dX4_goBack_9 : decode cX4_goBack 9 = .ok (.astore_n 2, 1) := by decide +kernel
theorem dX4_goBack_10 : decode cX4_goBack 10 = .ok (.aload_n 1, 1) := by decide +kernel
theorem dX4_goBack_11 : decode cX4_goBack 11 = .ok (.aload_n 2, 1) := by decide +kernel
theorem dX4_goBack_12 : decode cX4_goBack 12 = .ok (.iconst 3, 1) := by decide +kernel
theorem dX4_goBack_13 : decode cX4_goBack 13 = .ok (.iaload, 1) := by decide +kernel
theorem dX4_goBack_14 : decode cX4_goBack 14 = .ok (.invokevirtual 55, 3) := by decide +kernel
theorem dX4_goBack_17 : decode cX4_goBack 17 = .ok (.astore_n 3, 1) := by decide +kernel
theorem dX4_goBack_18 : decode cX4_goBack 18 = .ok (.aload_n 0, 1) := by decide +kernel
theorem dX4_goBack_19 : decode cX4_goBack 19 = .ok (.getfield 14, 3) := by decide +kernel
theorem dX4_goBack_22 : decode cX4_goBack 22 = .ok (.ifCond .eq 7, 3) := by decide +kernel
theorem dX4_goBack_25 : decode cX4_goBack 25 = .ok (.aload_n 3, 1) := by decide +kernel
theorem dX4_goBack_26 : decode cX4_goBack 26 = .ok (.ifnonnull 5, 3) := by decide +kernel
theorem dX4_goBack_29 : decode cX4_goBack 29 = .ok (.iconst 0, 1) := by decide +kernel
theorem dX4_goBack_30 : decode cX4_goBack 30 = .ok (.ireturn, 1) := by decide +kernel
theorem dX4_goBack_31 : decode cX4_goBack 31 = .ok (.aload_n 1, 1) := by decide +kernel
theorem dX4_goBack_32 : decode cX4_goBack 32 = .ok (.aload_n 2, 1) := by decide +kernel
theorem dX4_goBack_33 : decode cX4_goBack 33 = .ok (.iconst 0, 1) := by decide +kernel
theorem dX4_goBack_34 : decode cX4_goBack 34 = .ok (.iaload, 1) := by decide +kernel
theorem dX4_goBack_35 : decode cX4_goBack 35 = .ok (.putfield 27, 3) := by decide +kernel
theorem dX4_goBack_38 : decode cX4_goBack 38 = .ok (.aload_n 1, 1) := by decide +kernel
theorem dX4_goBack_39 : decode cX4_goBack 39 = .ok (.aload_n 2, 1) := by decide +kernel
theorem dX4_goBack_40 : decode cX4_goBack 40 = .ok (.iconst 1, 1) := by decide +kernel
theorem dX4_goBack_41 : decode cX4_goBack 41 = .ok (.iaload, 1) := by decide +kernel
theorem dX4_goBack_42 : decode cX4_goBack 42 = .ok (.putfield 32, 3) := by decide +kernel
theorem dX4_goBack_45 : decode cX4_goBack 45 = .ok (.aload_n 1, 1) := by decide +kernel
theorem dX4_goBack_46 : decode cX4_goBack 46 = .ok (.aload_n 2, 1) := by decide +kernel
theorem dX4_goBack_47 : decode cX4_goBack 47 = .ok (.iconst 2, 1) := by decide +kernel
theorem dX4_goBack_48 : decode cX4_goBack 48 = .ok (.iaload, 1) := by decide +kernel
theorem dX4_goBack_49 : decode cX4_goBack 49 = .ok (.putfield 35, 3) := by decide +kernel
theorem dX4_goBack_52 : decode cX4_goBack 52 = .ok (.aload_n 1, 1) := by decide +kernel
theorem dX4_goBack_53 : decode cX4_goBack 53 = .ok (.aload_n 2, 1) := by decide +kernel
theorem dX4_goBack_54 : decode cX4_goBack 54 = .ok (.iconst 3, 1) := by decide +kernel
theorem dX4_goBack_55 : decode cX4_goBack 55 = .ok (.iaload, 1) := by decide +kernel
theorem dX4_goBack_56 : decode cX4_goBack 56 = .ok (.putfield 38, 3) := by decide +kernel
theorem dX4_goBack_59 : decode cX4_goBack 59 = .ok (.aload_n 3, 1) := by decide +kernel
theorem dX4_goBack_60 : decode cX4_goBack 60 = .ok (.aload_n 2, 1) := by decide +kernel
theorem dX4_goBack_61 : decode cX4_goBack 61 = .ok (.iconst 4, 1) := by decide +kernel
theorem dX4_goBack_62 : decode cX4_goBack 62 = .ok (.iaload, 1) := by decide +kernel
theorem dX4_goBack_63 : decode cX4_goBack 63 = .ok (.putfield 41, 3) := by decide +kernel
theorem dX4_goBack_66 : decode cX4_goBack 66 = .ok (.aload_n 3, 1) := by decide +kernel
theorem dX4_goBack_67 : decode cX4_goBack 67 = .ok (.aload_n 2, 1) := by decide +kernel
theorem dX4_goBack_68 : decode cX4_goBack 68 = .ok (.iconst 5, 1) := by decide +kernel
theorem dX4_goBack_69 : decode cX4_goBack 69 = .ok (.iaload, 1) := by decide +kernel
theorem dX4_goBack_70 : decode cX4_goBack 70 = .ok (.putfield 46, 3) := by decide +kernel
theorem dX4_goBack_73 : decode cX4_goBack 73 = .ok (.aload_n 3, 1) := by decide +kernel
theorem dX4_goBack_74 : decode cX4_goBack 74 = .ok (.aload_n 2, 1) := by decide +kernel
theorem dX4_goBack_75 : decode cX4_goBack 75 = .ok (.bipush 6, 2) := by decide +kernel
theorem dX4_goBack_77 : decode cX4_goBack 77 = .ok (.iaload, 1) := by decide +kernel
theorem dX4_goBack_78 : decode cX4_goBack 78 = .ok (.putfield 49, 3) := by decide +kernel
theorem dX4_goBack_81 : decode cX4_goBack 81 = .ok (.aload_n 3, 1) := by decide +kernel
theorem dX4_goBack_82 : decode cX4_goBack 82 = .ok (.aload_n 2, 1) := by decide +kernel
theorem dX4_goBack_83 : decode cX4_goBack 83 = .ok (.bipush 7, 2) := by decide +kernel
theorem dX4_goBack_85 : decode cX4_goBack 85 = .ok (.iaload, 1) := by decide +kernel
theorem dX4_goBack_86 : decode cX4_goBack 86 = .ok (.putfield 52, 3) := by decide +kernel
theorem dX4_goBack_89 : decode cX4_goBack 89 = .ok (.aload_n 0, 1) := by decide +kernel
theorem dX4_goBack_90 : decode cX4_goBack 90 = .ok (.dup, 1) := by decide +kernel
theorem dX4_goBack_91 : decode cX4_goBack 91 = .ok (.getfield 14, 3) := by decide +kernel
theorem dX4_goBack_94 : decode cX4_goBack 94 = .ok (.iconst 1, 1) := by decide +kernel
theorem dX4_goBack_95 : decode cX4_goBack 95 = .ok (.isub, 1) := by decide +kernel
theorem dX4_goBack_96 : decode cX4_goBack 96 = .ok (.putfield 14, 3) := by decide +kernel
theorem dX4_goBack_99 : decode cX4_goBack 99 = .ok (.aload_n 0, 1) := by decide +kernel
theorem dX4_goBack_100 : decode cX4_goBack 100 = .ok (.aload_n 0, 1) := by decide +kernel
theorem dX4_goBack_101 : decode cX4_goBack 101 = .ok (.getfield 18, 3) := by decide +kernel
theorem dX4_goBack_104 : decode cX4_goBack 104 = .ok (.bipush 8, 2) := by decide +kernel
theorem dX4_goBack_106 : decode cX4_goBack 106 = .ok (.iadd, 1) := by decide +kernel
theorem dX4_goBack_107 : decode cX4_goBack 107 = .ok (.iconst 1, 1) := by decide +kernel
theorem dX4_goBack_108 : decode cX4_goBack 108 = .ok (.isub, 1) := by decide +kernel
theorem dX4_goBack_109 : decode cX4_goBack 109 = .ok (.bipush 8, 2) := by decide +kernel
theorem dX4_goBack_111 : decode cX4_goBack 111 = .ok (.irem, 1) := by decide +kernel
theorem dX4_goBack_112 : decode cX4_goBack 112 = .ok (.putfield 18, 3) := by decide +kernel
theorem dX4_goBack_115 : decode cX4_goBack 115 = .ok (.iconst 1, 1) := by decide +kernel
theorem dX4_goBack_116 : decode cX4_goBack 116 = .ok (.ireturn, 1) := by decide +kernel
theorem dX5_init_0 : decode cX5_init 0 = .ok (.aload_n 0, 1) := by decide +kernel
theorem dX5_init_1 : decode cX5_init 1 = .ok (.invokespecial 5, 3) := by decide +kernel
theorem dX5_init_4 : decode cX5_init 4 = .ok (.aload_n 0, 1) := by decide +kernel
theorem dX5_init_5 : decode cX5_init 5 = .ok (.new 1, 3) := by decide +kernel
theorem dX5_init_8 : decode cX5_init 8 = .ok (.dup, 1) := by decide +kernel
theorem dX5_init_9 : decode cX5_init 9 = .ok (.invokespecial 11, 3) := by decide +kernel
theorem dX5_init_12 : decode cX5_init 12 = .ok (.putfield 12, 3) := by decide +kernel
theorem dX5_init_15 : decode cX5_init 15 = .ok (.aload_n 0, 1) := by decide +kernel
theorem dX5_init_16 : decode cX5_init 16 = .ok (.iconst (-1), 1) := by decide +kernel
theorem dX5_init_17 : decode cX5_init 17 = .ok (.putfield 18, 3) := by decide +kernel
theorem dX5_init_20 : decode cX5_init 20 = .ok (.aload_n 0, 1) := by decide +kernel
theorem dX5_init_21 : decode cX5_init 21 = .ok (.new 22, 3) := by decide +kernel
theorem dX5_init_24 : decode cX5_init 24 = .ok (.dup, 1) := by decide +kernel
theorem dX5_init_25 : decode cX5_init 25 = .ok (.invokespecial 24, 3) := by decide +kernel
theorem dX5_init_28 : decode cX5_init 28 = .ok (.putfield 25, 3) := by decide +kernel
theorem dX5_init_31 : decode cX5_init 31 = .ok (.aload_n 0, 1) := by decide +kernel
theorem dX5_init_32 : decode cX5_init 32 = .ok (.bipush 60, 2) := by decide +kernel
theorem dX5_init_34 : decode cX5_init 34 = .ok (.newarray .int, 2) := by decide +kernel
theorem dX5_init_36 : decode cX5_init 36 = .ok (.putfield 31, 3) := by decide +kernel
theorem dX5_init_39 : decode cX5_init 39 = .ok (.return_, 1) := by decide +kernel
theorem dX5_begin_0 : decode cX5_begin 0 = .ok (.aload_n 0, 1) := by decide +kernel
theorem dX5_begin_1 : decode cX5_begin 1 = .ok (.iconst 0, 1) := by decide +kernel
theorem dX5_begin_2 : decode cX5_begin 2 = .ok (.putfield 35, 3) := by decide +kernel
theorem dX5_begin_5 : decode cX5_begin 5 = .ok (.aload_n 0, 1) := by decide +kernel
theorem dX5_begin_6 : decode cX5_begin 6 = .ok (.iconst (-1), 1) := by decide +kernel
theorem dX5_begin_7 : decode cX5_begin 7 = .ok (.putfield 18, 3) := by decide +kernel
theorem dX5_begin_10 : decode cX5_begin 10 = .ok (.aload_n 0, 1) := by decide +kernel
theorem dX5_begin_11 : decode cX5_begin 11 = .ok (.iconst 0, 1) := by decide +kernel
theorem dX5_begin_12 : decode cX5_begin 12 = .ok (.putfield 38, 3) := by decide +kernel
theorem dX5_begin_15 : decode cX5_begin 15 = .ok (.aload_n 0, 1) := by decide +kernel
theorem dX5_begin_16 : decode cX5_begin 16 = .ok (.getfield 25, 3) := by decide +kernel
theorem dX5_begin_19 : decode cX5_begin 19 = .ok (.invokevirtual 41, 3) := by decide +kernel
theorem dX5_begin_22 : decode cX5_begin 22 = .ok (.return_, 1) := by decide +kernel
theorem dX5_fail_0 : decode cX5_fail 0 = .ok (.aload_n 0, 1) := by decide +kernel
theorem dX5_fail_1 : decode cX5_fail 1 = .ok (.getfield 35, 3) := by decide +kernel
theorem dX5_fail_4 : decode cX5_fail 4 = .ok (.ifCond .ne 19, 3) := by decide +kernel
theorem dX5_fail_7 : decode cX5_fail 7 = .ok (.aload_n 0, 1) := by decide +kernel
theorem dX5_fail_8 : decode cX5_fail 8 = .ok (.iload_n 1, 1) := by decide +kernel
theorem dX5_fail_9 : decode cX5_fail 9 = .ok (.putfield 35, 3) := by decide +kernel
theorem dX5_fail_12 : decode cX5_fail 12 = .ok (.aload_n 0, 1) := by decide +kernel
theorem dX5_fail_13 : decode cX5_fail 13 = .ok (.aload_n 0, 1) := by decide +kernel
theorem dX5_fail_14 : decode cX5_fail 14 = .ok (.getfield 12, 3) := by decide +kernel
theorem dX5_fail_17 : decode cX5_fail 17 = .ok (.getfield 44, 3) := by decide +kernel
theorem dX5_fail_20 : decode cX5_fail 20 = .ok (.putfield 18, 3) := by decide +kernel
theorem dX5_fail_23 : decode cX5_fail 23 = .ok (.return_, 1) := by decide +kernel
theorem dX5_take_0 : decode cX5_take 0 = .ok (.aload_n 0, 1) := by decide +kernel
theorem dX5_take_1 : decode cX5_take 1 = .ok (.getfield 12, 3) := by decide +kernel
theorem dX5_take_4 : decode cX5_take 4 = .ok (.getfield 47, 3) := by decide +kernel
theorem dX5_take_7 : decode cX5_take 7 = .ok (.iload_n 1, 1) := by decide +kernel
theorem dX5_take_8 : decode cX5_take 8 = .ok (.if_icmp .ne 13, 3) := by decide +kernel
theorem dX5_take_11 : decode cX5_take 11 = .ok (.aload_n 0, 1) := by decide +kernel
theorem dX5_take_12 : decode cX5_take 12 = .ok (.getfield 12, 3) := by decide +kernel
theorem dX5_take_15 : decode cX5_take 15 = .ok (.invokevirtual 50, 3) := by decide +kernel
theorem dX5_take_18 : decode cX5_take 18 = .ok (.goto 8, 3) := by decide +kernel
theorem dX5_take_21 : decode cX5_take 21 = .ok (.aload_n 0, 1) := by decide +kernel
theorem dX5_take_22 : decode cX5_take 22 = .ok (.iconst 1, 1) := by decide +kernel
theorem dX5_take_23 : decode cX5_take 23 = .ok (.invokevirtual 53, 3) := by decide +kernel
theorem dX5_take_26 : decode cX5_take 26 = .ok (.return_, 1) := by decide +kernel
theorem dX5_taken_0 : decode cX5_taken 0 = .ok (.aload_n 0, 1) := by decide +kernel
theorem dX5_taken_1 : decode cX5_taken 1 = .ok (.getfield 35, 3) := by decide +kernel
theorem dX5_taken_4 : decode cX5_taken 4 = .ok (.ifCond .ne 14, 3) := by decide +kernel
theorem dX5_taken_7 : decode cX5_taken 7 = .ok (.aload_n 0, 1) := by decide +kernel
theorem dX5_taken_8 : decode cX5_taken 8 = .ok (.getfield 12, 3) := by decide +kernel
theorem dX5_taken_11 : decode cX5_taken 11 = .ok (.getfield 47, 3) := by decide +kernel
theorem dX5_taken_14 : decode cX5_taken 14 = .ok (.iload_n 1, 1) := by decide +kernel
theorem dX5_taken_15 : decode cX5_taken 15 = .ok (.if_icmp .eq 5, 3) := by decide +kernel
theorem dX5_taken_18 : decode cX5_taken 18 = .ok (.iconst 0, 1) := by decide +kernel
theorem dX5_taken_19 : decode cX5_taken 19 = .ok (.ireturn, 1) := by decide +kernel
theorem dX5_taken_20 : decode cX5_taken 20 = .ok (.aload_n 0, 1) := by decide +kernel
theorem dX5_taken_21 : decode cX5_taken 21 = .ok (.getfield 12, 3) := by decide +kernel
theorem dX5_taken_24 : decode cX5_taken 24 = .ok (.invokevirtual 50, 3) := by decide +kernel
theorem dX5_taken_27 : decode cX5_taken 27 = .ok (.iconst 1, 1) := by decide +kernel
theorem dX5_taken_28 : decode cX5_taken 28 = .ok (.ireturn, 1) := by decide +kernel
theorem dX5_number_0 : decode cX5_number 0 = .ok (.aload_n 0, 1) := by decide +kernel
theorem dX5_number_1 : decode cX5_number 1 = .ok (.getfield 12, 3) := by decide +kernel
theorem dX5_number_4 : decode cX5_number 4 = .ok (.getfield 57, 3) := by decide +kernel
theorem dX5_number_7 : decode cX5_number 7 = .ok (.istore_n 3, 1) := by decide +kernel
theorem dX5_number_8 : decode cX5_number 8 = .ok (.aload_n 0, 1) := by decide +kernel
theorem dX5_number_9 : decode cX5_number 9 = .ok (.getfield 12, 3) := by decide +kernel
theorem dX5_number_12 : decode cX5_number 12 = .ok (.getfield 47, 3) := by decide +kernel
theorem dX5_number_15 : decode cX5_number 15 = .ok (.iconst 1, 1) := by decide +kernel
theorem dX5_number_16 : decode cX5_number 16 = .ok (.if_icmp .eq 11, 3) := by decide +kernel
theorem dX5_number_19 : decode cX5_number 19 = .ok (.aload_n 0, 1) := by decide +kernel
theorem dX5_number_20 : decode cX5_number 20 = .ok (.iconst 1, 1) := by decide +kernel
theorem dX5_number_21 : decode cX5_number 21 = .ok (.invokevirtual 53, 3) := by decide +kernel
theorem dX5_number_24 : decode cX5_number 24 = .ok (.goto 30, 3) := by decide +kernel
theorem dX5_number_27 : decode cX5_number 27 = .ok (.iload_n 3, 1) := by decide +kernel
theorem dX5_number_28 : decode cX5_number 28 = .ok (.iload_n 1, 1) := by decide +kernel
theorem dX5_number_29 : decode cX5_number 29 = .ok (.if_icmp .lt 8, 3) := by decide +kernel
theorem dX5_number_32 : decode cX5_number 32 = .ok (.iload_n 3, 1) := by decide +kernel
theorem dX5_number_33 : decode cX5_number 33 = .ok (.iload_n 2, 1) := by decide +kernel
theorem dX5_number_34 : decode cX5_number 34 = .ok (.if_icmp .le 11, 3) := by decide +kernel
theorem dX5_number_37 : decode cX5_number 37 = .ok (.aload_n 0, 1) := by decide +kernel
theorem dX5_number_38 : decode cX5_number 38 = .ok (.iconst 2, 1) := by decide +kernel
theorem dX5_number_39 : decode cX5_number 39 = .ok (.invokevirtual 53, 3) := by decide +kernel
theorem dX5_number_42 : decode cX5_number 42 = .ok (.goto 12, 3) := by decide +kernel
theorem dX5_number_45 : decode cX5_number 45 = .ok (.aload_n 0, 1) := by decide +kernel
theorem dX5_number_46 : decode cX5_number 46 = .ok (.getfield 12, 3) := by decide +kernel
theorem dX5_number_49 : decode cX5_number 49 = .ok (.invokevirtual 50, 3) := by decide +kernel
theorem dX5_number_52 : decode cX5_number 52 = .ok (.iload_n 3, 1) := by decide +kernel
theorem dX5_number_53 : decode cX5_number 53 = .ok (.ireturn, 1) := by decide +kernel
theorem dX5_number_54 : decode cX5_number 54 = .ok (.iload_n 1, 1) := by decide +kernel
theorem dX5_number_55 : decode cX5_number 55 = .ok (.ireturn, 1) := by decide +kernel
theorem dX5_law_0 : decode cX5_law 0 = .ok (.aload_n 0, 1) := by decide +kernel
theorem dX5_law_1 : decode cX5_law 1 = .ok (.getfield 12, 3) := by decide +kernel
theorem dX5_law_4 : decode cX5_law 4 = .ok (.aload_n 1, 1) := by decide +kernel
theorem dX5_law_5 : decode cX5_law 5 = .ok (.invokevirtual 60, 3) := by decide +kernel
theorem dX5_law_8 : decode cX5_law 8 = .ok (.aload_n 0, 1) := by decide +kernel
theorem dX5_law_9 : decode cX5_law 9 = .ok (.sipush 260, 3) := by decide +kernel
theorem dX5_law_12 : decode cX5_law 12 = .ok (.iload_n 2, 1) := by decide +kernel
theorem dX5_law_13 : decode cX5_law 13 = .ok (.iadd, 1) := by decide +kernel
theorem dX5_law_14 : decode cX5_law 14 = .ok (.putfield 64, 3) := by decide +kernel
theorem dX5_law_17 : decode cX5_law 17 = .ok (.iconst 0, 1) := by decide +kernel
theorem dX5_law_18 : decode cX5_law 18 = .ok (.istore_n 3, 1) := by decide +kernel
theorem dX5_law_19 : decode cX5_law 19 = .ok (.iload_n 3, 1) := by decide +kernel
theorem dX5_law_20 : decode cX5_law 20 = .ok (.sipush 400, 3) := by decide +kernel
theorem dX5_law_23 : decode cX5_law 23 = .ok (.if_icmp .ge 140, 3) := by decide +kernel
theorem dX5_law_26 : decode cX5_law 26 = .ok (.aload_n 0, 1) := by decide +kernel
theorem dX5_law_27 : decode cX5_law 27 = .ok (.getfield 35, 3) := by decide +kernel
theorem dX5_law_30 : decode cX5_law 30 = .ok (.ifCond .ne 133, 3) := by decide +kernel
theorem dX5_law_33 : decode cX5_law 33 = .ok (.aload_n 0, 1) := by decide +kernel
theorem dX5_law_34 : decode cX5_law 34 = .ok (.getfield 12, 3) := by decide +kernel
theorem dX5_law_37 : decode cX5_law 37 = .ok (.getfield 47, 3) := by decide +kernel
theorem dX5_law_40 : decode cX5_law 40 = .ok (.iconst 2, 1) := by decide +kernel
theorem dX5_law_41 : decode cX5_law 41 = .ok (.if_icmp .eq 122, 3) := by decide +kernel
theorem dX5_law_44 : decode cX5_law 44 = .ok (.aload_n 0, 1) := by decide +kernel
theorem dX5_law_45 : decode cX5_law 45 = .ok (.getfield 12, 3) := by decide +kernel
theorem dX5_law_48 : decode cX5_law 48 = .ok (.getfield 47, 3) := by decide +kernel
theorem dX5_law_51 : decode cX5_law 51 = .ok (.istore 4, 2) := by decide +kernel
theorem dX5_law_53 : decode cX5_law 53 = .ok (.iload 4, 2) := by decide +kernel
theorem dX5_law_55 : decode cX5_law 55 = .ok (.sipush 260, 3) := by decide +kernel
theorem dX5_law_58 : decode cX5_law 58 = .ok (.if_icmp .lt 12, 3) := by decide +kernel
theorem dX5_law_61 : decode cX5_law 61 = .ok (.iload 4, 2) := by decide +kernel
theorem dX5_law_63 : decode cX5_law 63 = .ok (.aload_n 0, 1) := by decide +kernel
theorem dX5_law_64 : decode cX5_law 64 = .ok (.getfield 64, 3) := by decide +kernel
theorem dX5_law_67 : decode cX5_law 67 = .ok (.if_icmp .lt 11, 3) := by decide +kernel
theorem dX5_law_70 : decode cX5_law 70 = .ok (.aload_n 0, 1) := by decide +kernel
theorem dX5_law_71 : decode cX5_law 71 = .ok (.iconst 1, 1) := by decide +kernel
theorem dX5_law_72 : decode cX5_law 72 = .ok (.invokevirtual 53, 3) := by decide +kernel
theorem dX5_law_75 : decode cX5_law 75 = .ok (.goto 82, 3) := by decide +kernel
theorem dX5_law_78 : decode cX5_law 78 = .ok (.aload_n 0, 1) := by decide +kernel
theorem dX5_law_79 : decode cX5_law 79 = .ok (.getfield 25, 3) := by decide +kernel
theorem dX5_law_82 : decode cX5_law 82 = .ok (.getfield 67, 3) := by decide +kernel
theorem dX5_law_85 : decode cX5_law 85 = .ok (.bipush 16, 2) := by decide +kernel
theorem dX5_law_87 : decode cX5_law 87 = .ok (.if_icmp .lt 11, 3) := by decide +kernel
theorem dX5_law_90 : decode cX5_law 90 = .ok (.aload_n 0, 1) := by decide +kernel
theorem dX5_law_91 : decode cX5_law 91 = .ok (.iconst 3, 1) := by decide +kernel
theorem dX5_law_92 : decode cX5_law 92 = .ok (.invokevirtual 53, 3) := by decide +kernel
theorem dX5_law_95 : decode cX5_law 95 = .ok (.goto 62, 3) := by decide +kernel
theorem dX5_law_98 : decode cX5_law 98 = .ok (.aload_n 0, 1) := by decide +kernel
theorem dX5_law_99 : decode cX5_law 99 = .ok (.getfield 12, 3) := by decide +kernel
theorem dX5_law_102 : decode cX5_law 102 = .ok (.invokevirtual 50, 3) := by decide +kernel
theorem dX5_law_105 : decode cX5_law 105 = .ok (.aload_n 0, 1) := by decide +kernel
theorem dX5_law_106 : decode cX5_law 106 = .ok (.getfield 25, 3) := by decide +kernel
theorem dX5_law_109 : decode cX5_law 109 = .ok (.iload 4, 2) := by decide +kernel
theorem dX5_law_111 : decode cX5_law 111 = .ok (.sipush 260, 3) := by decide +kernel
theorem dX5_law_114 : decode cX5_law 114 = .ok (.isub, 1) := by decide +kernel
theorem dX5_law_115 : decode cX5_law 115 = .ok (.invokevirtual 70, 3) := by decide +kernel
theorem dX5_law_118 : decode cX5_law 118 = .ok (.aload_n 0, 1) := by decide +kernel
theorem dX5_law_119 : decode cX5_law 119 = .ok (.invokevirtual 73, 3) := by decide +kernel
theorem dX5_law_122 : decode cX5_law 122 = .ok (.aload_n 0, 1) := by decide +kernel
theorem dX5_law_123 : decode cX5_law 123 = .ok (.getfield 25, 3) := by decide +kernel
theorem dX5_law_126 : decode cX5_law 126 = .ok (.invokevirtual 76, 3) := by decide +kernel
theorem dX5_law_129 : decode cX5_law 129 = .ok (.aload_n 0, 1) := by decide +kernel
theorem dX5_law_130 : decode cX5_law 130 = .ok (.sipush 256, 3) := by decide +kernel
theorem dX5_law_133 : decode cX5_law 133 = .ok (.invokevirtual 79, 3) := by decide +kernel
theorem dX5_law_136 : decode cX5_law 136 = .ok (.ifCond .eq 8, 3) := by decide +kernel
theorem dX5_law_139 : decode cX5_law 139 = .ok (.aload_n 0, 1) := by decide +kernel
theorem dX5_law_140 : decode cX5_law 140 = .ok (.iconst 0, 1) := by decide +kernel
theorem dX5_law_141 : decode cX5_law 141 = .ok (.invokevirtual 83, 3) := by decide +kernel
theorem dX5_law_144 : decode cX5_law 144 = .ok (.aload_n 0, 1) := by decide +kernel
theorem dX5_law_145 : decode cX5_law 145 = .ok (.bipush 59, 2) := by decide +kernel
theorem dX5_law_147 : decode cX5_law 147 = .ok (.invokevirtual 86, 3) := by decide +kernel
theorem dX5_law_150 : decode cX5_law 150 = .ok (.aload_n 0, 1) := by decide +kernel
theorem dX5_law_151 : decode cX5_law 151 = .ok (.getfield 25, 3) := by decide +kernel
theorem dX5_law_154 : decode cX5_law 154 = .ok (.invokevirtual 89, 3) := by decide +kernel
theorem dX5_law_157 : decode cX5_law 157 = .ok (.iinc 3 1, 3) := by decide +kernel
theorem dX5_law_160 : decode cX5_law 160 = .ok (.goto (-141), 3) := by decide +kernel
theorem dX5_law_163 : decode cX5_law 163 = .ok (.aload_n 0, 1) := by decide +kernel
theorem dX5_law_164 : decode cX5_law 164 = .ok (.getfield 35, 3) := by decide +kernel
theorem dX5_law_167 : decode cX5_law 167 = .ok (.ifCond .ne 7, 3) := by decide +kernel
theorem dX5_law_170 : decode cX5_law 170 = .ok (.iconst 1, 1) := by decide +kernel
theorem dX5_law_171 : decode cX5_law 171 = .ok (.goto 4, 3) := by decide +kernel
theorem dX5_law_174 : decode cX5_law 174 = .ok (.iconst 0, 1) := by decide +kernel
theorem dX5_law_175 : decode cX5_law 175 = .ok (.ireturn, 1) := by decide +kernel
theorem dX5_anyOf_0 : decode cX5_anyOf 0 = .ok (.aload_n 0, 1) := by decide +kernel
theorem dX5_anyOf_1 : decode cX5_anyOf 1 = .ok (.iload_n 1, 1) := by decide +kernel
theorem dX5_anyOf_2 : decode cX5_anyOf 2 = .ok (.invokevirtual 92, 3) := by decide +kernel
theorem dX5_anyOf_5 : decode cX5_anyOf 5 = .ok (.iconst 0, 1) := by decide +kernel
theorem dX5_anyOf_6 : decode cX5_anyOf 6 = .ok (.istore_n 2, 1) := by decide +kernel
theorem dX5_anyOf_7 : decode cX5_anyOf 7 = .ok (.iload_n 2, 1) := by decide +kernel
theorem dX5_anyOf_8 : decode cX5_anyOf 8 = .ok (.sipush 400, 3) := by decide +kernel
theorem dX5_anyOf_11 : decode cX5_anyOf 11 = .ok (.if_icmp .ge 34, 3) := by decide +kernel
theorem dX5_anyOf_14 : decode cX5_anyOf 14 = .ok (.aload_n 0, 1) := by decide +kernel
theorem dX5_anyOf_15 : decode cX5_anyOf 15 = .ok (.sipush 257, 3) := by decide +kernel
theorem dX5_anyOf_18 : decode cX5_anyOf 18 = .ok (.invokevirtual 79, 3) := by decide +kernel
theorem dX5_anyOf_21 : decode cX5_anyOf 21 = .ok (.ifCond .eq 24, 3) := by decide +kernel
theorem dX5_anyOf_24 : decode cX5_anyOf 24 = .ok (.aload_n 0, 1) := by decide +kernel
theorem dX5_anyOf_25 : decode cX5_anyOf 25 = .ok (.iload_n 1, 1) := by decide +kernel
theorem dX5_anyOf_26 : decode cX5_anyOf 26 = .ok (.invokevirtual 92, 3) := by decide +kernel
theorem dX5_anyOf_29 : decode cX5_anyOf 29 = .ok (.aload_n 0, 1) := by decide +kernel
theorem dX5_anyOf_30 : decode cX5_anyOf 30 = .ok (.getfield 25, 3) := by decide +kernel
theorem dX5_anyOf_33 : decode cX5_anyOf 33 = .ok (.bipush 11, 2) := by decide +kernel
theorem dX5_anyOf_35 : decode cX5_anyOf 35 = .ok (.iconst 0, 1) := by decide +kernel
theorem dX5_anyOf_36 : decode cX5_anyOf 36 = .ok (.invokevirtual 95, 3) := by decide +kernel
theorem dX5_anyOf_39 : decode cX5_anyOf 39 = .ok (.iinc 2 1, 3) := by decide +kernel
theorem dX5_anyOf_42 : decode cX5_anyOf 42 = .ok (.goto (-35), 3) := by decide +kernel
theorem dX5_anyOf_45 : decode cX5_anyOf 45 = .ok (.return_, 1) := by decide +kernel
theorem dX5_allOf_0 : decode cX5_allOf 0 = .ok (.aload_n 0, 1) := by decide +kernel
theorem dX5_allOf_1 : decode cX5_allOf 1 = .ok (.iload_n 1, 1) := by decide +kernel
theorem dX5_allOf_2 : decode cX5_allOf 2 = .ok (.invokevirtual 99, 3) := by decide +kernel
theorem dX5_allOf_5 : decode cX5_allOf 5 = .ok (.iconst 0, 1) := by decide +kernel
theorem dX5_allOf_6 : decode cX5_allOf 6 = .ok (.istore_n 2, 1) := by decide +kernel
theorem dX5_allOf_7 : decode cX5_allOf 7 = .ok (.iload_n 2, 1) := by decide +kernel
theorem dX5_allOf_8 : decode cX5_allOf 8 = .ok (.sipush 400, 3) := by decide +kernel
theorem dX5_allOf_11 : decode cX5_allOf 11 = .ok (.if_icmp .ge 34, 3) := by decide +kernel
theorem dX5_allOf_14 : decode cX5_allOf 14 = .ok (.aload_n 0, 1) := by decide +kernel
theorem dX5_allOf_15 : decode cX5_allOf 15 = .ok (.sipush 258, 3) := by decide +kernel
theorem dX5_allOf_18 : decode cX5_allOf 18 = .ok (.invokevirtual 79, 3) := by decide +kernel
theorem dX5_allOf_21 : decode cX5_allOf 21 = .ok (.ifCond .eq 24, 3) := by decide +kernel
theorem dX5_allOf_24 : decode cX5_allOf 24 = .ok (.aload_n 0, 1) := by decide +kernel
theorem dX5_allOf_25 : decode cX5_allOf 25 = .ok (.iload_n 1, 1) := by decide +kernel
theorem dX5_allOf_26 : decode cX5_allOf 26 = .ok (.invokevirtual 99, 3) := by decide +kernel
theorem dX5_allOf_29 : decode cX5_allOf 29 = .ok (.aload_n 0, 1) := by decide +kernel
theorem dX5_allOf_30 : decode cX5_allOf 30 = .ok (.getfield 25, 3) := by decide +kernel
theorem dX5_allOf_33 : decode cX5_allOf 33 = .ok (.bipush 10, 2) := by decide +kernel
theorem dX5_allOf_35 : decode cX5_allOf 35 = .ok (.iconst 0, 1) := by decide +kernel
theorem dX5_allOf_36 : decode cX5_allOf 36 = .ok (.invokevirtual 95, 3) := by decide +kernel
theorem dX5_allOf_39 : decode cX5_allOf 39 = .ok (.iinc 2 1, 3) := by decide +kernel
theorem dX5_allOf_42 : decode cX5_allOf 42 = .ok (.goto (-35), 3) := by decide +kernel
theorem dX5_allOf_45 : decode cX5_allOf 45 = .ok (.return_, 1) := by decide +kernel
theorem dX5_single_0 : decode cX5_single 0 = .ok (.aload_n 0, 1) := by decide +kernel
theorem dX5_single_1 : decode cX5_single 1 = .ok (.getfield 12, 3) := by decide +kernel
theorem dX5_single_4 : decode cX5_single 4 = .ok (.getfield 47, 3) := by decide +kernel
theorem dX5_single_7 : decode cX5_single 7 = .ok (.sipush 259, 3) := by decide +kernel
theorem dX5_single_10 : decode cX5_single 10 = .ok (.if_icmp .eq 40, 3) := by decide +kernel
theorem dX5_single_13 : decode cX5_single 13 = .ok (.aload_n 0, 1) := by decide +kernel
theorem dX5_single_14 : decode cX5_single 14 = .ok (.getfield 12, 3) := by decide +kernel
theorem dX5_single_17 : decode cX5_single 17 = .ok (.getfield 47, 3) := by decide +kernel
theorem dX5_single_20 : decode cX5_single 20 = .ok (.bipush 40, 2) := by decide +kernel
theorem dX5_single_22 : decode cX5_single 22 = .ok (.if_icmp .eq 28, 3) := by decide +kernel
theorem dX5_single_25 : decode cX5_single 25 = .ok (.aload_n 0, 1) := by decide +kernel
theorem dX5_single_26 : decode cX5_single 26 = .ok (.invokevirtual 73, 3) := by decide +kernel
theorem dX5_single_29 : decode cX5_single 29 = .ok (.aload_n 0, 1) := by decide +kernel
theorem dX5_single_30 : decode cX5_single 30 = .ok (.invokevirtual 102, 3) := by decide +kernel
theorem dX5_single_33 : decode cX5_single 33 = .ok (.istore_n 2, 1) := by decide +kernel
theorem dX5_single_34 : decode cX5_single 34 = .ok (.aload_n 0, 1) := by decide +kernel
theorem dX5_single_35 : decode cX5_single 35 = .ok (.invokevirtual 73, 3) := by decide +kernel
theorem dX5_single_38 : decode cX5_single 38 = .ok (.aload_n 0, 1) := by decide +kernel
theorem dX5_single_39 : decode cX5_single 39 = .ok (.getfield 25, 3) := by decide +kernel
theorem dX5_single_42 : decode cX5_single 42 = .ok (.iload_n 2, 1) := by decide +kernel
theorem dX5_single_43 : decode cX5_single 43 = .ok (.iconst 0, 1) := by decide +kernel
theorem dX5_single_44 : decode cX5_single 44 = .ok (.invokevirtual 95, 3) := by decide +kernel
theorem dX5_single_47 : decode cX5_single 47 = .ok (.goto 66, 3) := by decide +kernel
theorem dX5_single_50 : decode cX5_single 50 = .ok (.iload_n 1, 1) := by decide +kernel
theorem dX5_single_51 : decode cX5_single 51 = .ok (.bipush 8, 2) := by decide +kernel
theorem dX5_single_53 : decode cX5_single 53 = .ok (.if_icmp .lt 11, 3) := by decide +kernel
theorem dX5_single_56 : decode cX5_single 56 = .ok (.aload_n 0, 1) := by decide +kernel
theorem dX5_single_57 : decode cX5_single 57 = .ok (.iconst 3, 1) := by decide +kernel
theorem dX5_single_58 : decode cX5_single 58 = .ok (.invokevirtual 53, 3) := by decide +kernel
theorem dX5_single_61 : decode cX5_single 61 = .ok (.goto 52, 3) := by decide +kernel
theorem dX5_single_64 : decode cX5_single 64 = .ok (.aload_n 0, 1) := by decide +kernel
theorem dX5_single_65 : decode cX5_single 65 = .ok (.sipush 259, 3) := by decide +kernel
theorem dX5_single_68 : decode cX5_single 68 = .ok (.invokevirtual 79, 3) := by decide +kernel
theorem dX5_single_71 : decode cX5_single 71 = .ok (.ifCond .eq 23, 3) := by decide +kernel
theorem dX5_single_74 : decode cX5_single 74 = .ok (.aload_n 0, 1) := by decide +kernel
theorem dX5_single_75 : decode cX5_single 75 = .ok (.iload_n 1, 1) := by decide +kernel
theorem dX5_single_76 : decode cX5_single 76 = .ok (.iconst 1, 1) := by decide +kernel
theorem dX5_single_77 : decode cX5_single 77 = .ok (.iadd, 1) := by decide +kernel
theorem dX5_single_78 : decode cX5_single 78 = .ok (.invokevirtual 99, 3) := by decide +kernel
theorem dX5_single_81 : decode cX5_single 81 = .ok (.aload_n 0, 1) := by decide +kernel
theorem dX5_single_82 : decode cX5_single 82 = .ok (.getfield 25, 3) := by decide +kernel
theorem dX5_single_85 : decode cX5_single 85 = .ok (.bipush 9, 2) := by decide +kernel
theorem dX5_single_87 : decode cX5_single 87 = .ok (.iconst 0, 1) := by decide +kernel
theorem dX5_single_88 : decode cX5_single 88 = .ok (.invokevirtual 95, 3) := by decide +kernel
theorem dX5_single_91 : decode cX5_single 91 = .ok (.goto 22, 3) := by decide +kernel
theorem dX5_single_94 : decode cX5_single 94 = .ok (.aload_n 0, 1) := by decide +kernel
theorem dX5_single_95 : decode cX5_single 95 = .ok (.bipush 40, 2) := by decide +kernel
theorem dX5_single_97 : decode cX5_single 97 = .ok (.invokevirtual 86, 3) := by decide +kernel
theorem dX5_single_100 : decode cX5_single 100 = .ok (.aload_n 0, 1) := by decide +kernel
theorem dX5_single_101 : decode cX5_single 101 = .ok (.iload_n 1, 1) := by decide +kernel
theorem dX5_single_102 : decode cX5_single 102 = .ok (.iconst 1, 1) := by decide +kernel
theorem dX5_single_103 : decode cX5_single 103 = .ok (.iadd, 1) := by decide +kernel
theorem dX5_single_104 : decode cX5_single 104 = .ok (.invokevirtual 83, 3) := by decide +kernel
theorem dX5_single_107 : decode cX5_single 107 = .ok (.aload_n 0, 1) := by decide +kernel
theorem dX5_single_108 : decode cX5_single 108 = .ok (.bipush 41, 2) := by decide +kernel
theorem dX5_single_110 : decode cX5_single 110 = .ok (.invokevirtual 86, 3) := by decide +kernel
theorem dX5_single_113 : decode cX5_single 113 = .ok (.return_, 1) := by decide +kernel
theorem dX5_comparing_0 : decode cX5_comparing 0 = .ok (.aload_n 0, 1) := by decide +kernel
theorem dX5_comparing_1 : decode cX5_comparing 1 = .ok (.getfield 12, 3) := by decide +kernel
theorem dX5_comparing_4 : decode cX5_comparing 4 = .ok (.getfield 47, 3) := by decide +kernel
theorem dX5_comparing_7 : decode cX5_comparing 7 = .ok (.bipush 60, 2) := by decide +kernel
theorem dX5_comparing_9 : decode cX5_comparing 9 = .ok (.if_icmp .ne 8, 3) := by decide +kernel
theorem dX5_comparing_12 : decode cX5_comparing 12 = .ok (.bipush 6, 2) := by decide +kernel
theorem dX5_comparing_14 : decode cX5_comparing 14 = .ok (.goto 22, 3) := by decide +kernel
theorem dX5_comparing_17 : decode cX5_comparing 17 = .ok (.aload_n 0, 1) := by decide +kernel
theorem dX5_comparing_18 : decode cX5_comparing 18 = .ok (.getfield 12, 3) := by decide +kernel
theorem dX5_comparing_21 : decode cX5_comparing 21 = .ok (.getfield 47, 3) := by decide +kernel
theorem dX5_comparing_24 : decode cX5_comparing 24 = .ok (.bipush 61, 2) := by decide +kernel
theorem dX5_comparing_26 : decode cX5_comparing 26 = .ok (.if_icmp .ne 8, 3) := by decide +kernel
theorem dX5_comparing_29 : decode cX5_comparing 29 = .ok (.bipush 7, 2) := by decide +kernel
theorem dX5_comparing_31 : decode cX5_comparing 31 = .ok (.goto 5, 3) := by decide +kernel
theorem dX5_comparing_34 : decode cX5_comparing 34 = .ok (.bipush 8, 2) := by decide +kernel
theorem dX5_comparing_36 : decode cX5_comparing 36 = .ok (.istore_n 1, 1) := by decide +kernel
theorem dX5_comparing_37 : decode cX5_comparing 37 = .ok (.aload_n 0, 1) := by decide +kernel
theorem dX5_comparing_38 : decode cX5_comparing 38 = .ok (.iload_n 1, 1) := by decide +kernel
theorem dX5_comparing_39 : decode cX5_comparing 39 = .ok (.bipush 6, 2) := by decide +kernel
theorem dX5_comparing_41 : decode cX5_comparing 41 = .ok (.if_icmp .ne 8, 3) := by decide +kernel
theorem dX5_comparing_44 : decode cX5_comparing 44 = .ok (.bipush 60, 2) := by decide +kernel
theorem dX5_comparing_46 : decode cX5_comparing 46 = .ok (.goto 16, 3) := by decide +kernel
theorem dX5_comparing_49 : decode cX5_comparing 49 = .ok (.iload_n 1, 1) := by decide +kernel
theorem dX5_comparing_50 : decode cX5_comparing 50 = .ok (.bipush 7, 2) := by decide +kernel
theorem dX5_comparing_52 : decode cX5_comparing 52 = .ok (.if_icmp .ne 8, 3) := by decide +kernel
theorem dX5_comparing_55 : decode cX5_comparing 55 = .ok (.bipush 61, 2) := by decide +kernel
theorem dX5_comparing_57 : decode cX5_comparing 57 = .ok (.goto 5, 3) := by decide +kernel
theorem dX5_comparing_60 : decode cX5_comparing 60 = .ok (.bipush 62, 2) := by decide +kernel
theorem dX5_comparing_62 : decode cX5_comparing 62 = .ok (.invokevirtual 86, 3) := by decide +kernel
theorem dX5_comparing_65 : decode cX5_comparing 65 = .ok (.iload_n 1, 1) := by decide +kernel
theorem dX5_comparing_66 : decode cX5_comparing 66 = .ok (.ireturn, 1) := by decide +kernel
theorem dX5_sum_0 : decode cX5_sum 0 = .ok (.iconst (-1), 1) := by decide +kernel
theorem dX5_sum_1 : decode cX5_sum 1 = .ok (.istore_n 1, 1) := by decide +kernel
theorem dX5_sum_2 : decode cX5_sum 2 = .ok (.aload_n 0, 1) := by decide +kernel
theorem dX5_sum_3 : decode cX5_sum 3 = .ok (.invokevirtual 106, 3) := by decide +kernel
theorem dX5_sum_6 : decode cX5_sum 6 = .ok (.iconst 0, 1) := by decide +kernel
theorem dX5_sum_7 : decode cX5_sum 7 = .ok (.istore_n 2, 1) := by decide +kernel
theorem dX5_sum_8 : decode cX5_sum 8 = .ok (.iload_n 2, 1) := by decide +kernel
theorem dX5_sum_9 : decode cX5_sum 9 = .ok (.sipush 400, 3) := by decide +kernel
theorem dX5_sum_12 : decode cX5_sum 12 = .ok (.if_icmp .ge 121, 3) := by decide +kernel
theorem dX5_sum_15 : decode cX5_sum 15 = .ok (.aload_n 0, 1) := by decide +kernel
theorem dX5_sum_16 : decode cX5_sum 16 = .ok (.getfield 35, 3) := by decide +kernel
theorem dX5_sum_19 : decode cX5_sum 19 = .ok (.ifCond .ne 114, 3) := by decide +kernel
theorem dX5_sum_22 : decode cX5_sum 22 = .ok (.aload_n 0, 1) := by decide +kernel
theorem dX5_sum_23 : decode cX5_sum 23 = .ok (.bipush 42, 2) := by decide +kernel
theorem dX5_sum_25 : decode cX5_sum 25 = .ok (.invokevirtual 79, 3) := by decide +kernel
theorem dX5_sum_28 : decode cX5_sum 28 = .ok (.ifCond .eq 19, 3) := by decide +kernel
theorem dX5_sum_31 : decode cX5_sum 31 = .ok (.aload_n 0, 1) := by decide +kernel
theorem dX5_sum_32 : decode cX5_sum 32 = .ok (.invokevirtual 106, 3) := by decide +kernel
theorem dX5_sum_35 : decode cX5_sum 35 = .ok (.aload_n 0, 1) := by decide +kernel
theorem dX5_sum_36 : decode cX5_sum 36 = .ok (.getfield 25, 3) := by decide +kernel
theorem dX5_sum_39 : decode cX5_sum 39 = .ok (.iconst 4, 1) := by decide +kernel
theorem dX5_sum_40 : decode cX5_sum 40 = .ok (.iconst 0, 1) := by decide +kernel
theorem dX5_sum_41 : decode cX5_sum 41 = .ok (.invokevirtual 95, 3) := by decide +kernel
theorem dX5_sum_44 : decode cX5_sum 44 = .ok (.goto 83, 3) := by decide +kernel
theorem dX5_sum_47 : decode cX5_sum 47 = .ok (.aload_n 0, 1) := by decide +kernel
theorem dX5_sum_48 : decode cX5_sum 48 = .ok (.bipush 47, 2) := by decide +kernel
theorem dX5_sum_50 : decode cX5_sum 50 = .ok (.invokevirtual 79, 3) := by decide +kernel
theorem dX5_sum_53 : decode cX5_sum 53 = .ok (.ifCond .eq 22, 3) := by decide +kernel
theorem dX5_sum_56 : decode cX5_sum 56 = .ok (.aload_n 0, 1) := by decide +kernel
theorem dX5_sum_57 : decode cX5_sum 57 = .ok (.getfield 25, 3) := by decide +kernel
theorem dX5_sum_60 : decode cX5_sum 60 = .ok (.iconst 5, 1) := by decide +kernel
theorem dX5_sum_61 : decode cX5_sum 61 = .ok (.aload_n 0, 1) := by decide +kernel
theorem dX5_sum_62 : decode cX5_sum 62 = .ok (.iconst 1, 1) := by decide +kernel
theorem dX5_sum_63 : decode cX5_sum 63 = .ok (.sipush 9999, 3) := by decide +kernel
theorem dX5_sum_66 : decode cX5_sum 66 = .ok (.invokevirtual 109, 3) := by decide +kernel
theorem dX5_sum_69 : decode cX5_sum 69 = .ok (.invokevirtual 95, 3) := by decide +kernel
theorem dX5_sum_72 : decode cX5_sum 72 = .ok (.goto 55, 3) := by decide +kernel
theorem dX5_sum_75 : decode cX5_sum 75 = .ok (.iload_n 1, 1) := by decide +kernel
theorem dX5_sum_76 : decode cX5_sum 76 = .ok (.iconst (-1), 1) := by decide +kernel
theorem dX5_sum_77 : decode cX5_sum 77 = .ok (.if_icmp .eq 12, 3) := by decide +kernel
theorem dX5_sum_80 : decode cX5_sum 80 = .ok (.aload_n 0, 1) := by decide +kernel
theorem dX5_sum_81 : decode cX5_sum 81 = .ok (.getfield 25, 3) := by decide +kernel
theorem dX5_sum_84 : decode cX5_sum 84 = .ok (.iload_n 1, 1) := by decide +kernel
theorem dX5_sum_85 : decode cX5_sum 85 = .ok (.iconst 0, 1) := by decide +kernel
theorem dX5_sum_86 : decode cX5_sum 86 = .ok (.invokevirtual 95, 3) := by decide +kernel
theorem dX5_sum_89 : decode cX5_sum 89 = .ok (.aload_n 0, 1) := by decide +kernel
theorem dX5_sum_90 : decode cX5_sum 90 = .ok (.bipush 43, 2) := by decide +kernel
theorem dX5_sum_92 : decode cX5_sum 92 = .ok (.invokevirtual 79, 3) := by decide +kernel
theorem dX5_sum_95 : decode cX5_sum 95 = .ok (.ifCond .eq 7, 3) := by decide +kernel
theorem dX5_sum_98 : decode cX5_sum 98 = .ok (.iconst 2, 1) := by decide +kernel
theorem dX5_sum_99 : decode cX5_sum 99 = .ok (.goto 17, 3) := by decide +kernel
theorem dX5_sum_102 : decode cX5_sum 102 = .ok (.aload_n 0, 1) := by decide +kernel
theorem dX5_sum_103 : decode cX5_sum 103 = .ok (.bipush 45, 2) := by decide +kernel
theorem dX5_sum_105 : decode cX5_sum 105 = .ok (.invokevirtual 79, 3) := by decide +kernel
theorem dX5_sum_108 : decode cX5_sum 108 = .ok (.ifCond .eq 7, 3) := by decide +kernel
theorem dX5_sum_111 : decode cX5_sum 111 = .ok (.iconst 3, 1) := by decide +kernel
theorem dX5_sum_112 : decode cX5_sum 112 = .ok (.goto 4, 3) := by decide +kernel
theorem dX5_sum_115 : decode cX5_sum 115 = .ok (.iconst (-1), 1) := by decide +kernel
theorem dX5_sum_116 : decode cX5_sum 116 = .ok (.istore_n 1, 1) := by decide +kernel
theorem dX5_sum_117 : decode cX5_sum 117 = .ok (.iload_n 1, 1) := by decide +kernel
theorem dX5_sum_118 : decode cX5_sum 118 = .ok (.iconst (-1), 1) := by decide +kernel
theorem dX5_sum_119 : decode cX5_sum 119 = .ok (.if_icmp .ne 4, 3) := by decide +kernel
theorem dX5_sum_122 : decode cX5_sum 122 = .ok (.return_, 1) := by decide +kernel
theorem dX5_sum_123 : decode cX5_sum 123 = .ok (.aload_n 0, 1) := by decide +kernel
theorem dX5_sum_124 : decode cX5_sum 124 = .ok (.invokevirtual 106, 3) := by decide +kernel
theorem dX5_sum_127 : decode cX5_sum 127 = .ok (.iinc 2 1, 3) := by decide +kernel
theorem dX5_sum_130 : decode cX5_sum 130 = .ok (.goto (-122), 3) := by decide +kernel
theorem dX5_sum_133 : decode cX5_sum 133 = .ok (.return_, 1) := by decide +kernel
theorem dX5_operand_0 : decode cX5_operand 0 = .ok (.aload_n 0, 1) := by decide +kernel
theorem dX5_operand_1 : decode cX5_operand 1 = .ok (.getfield 12, 3) := by decide +kernel
theorem dX5_operand_4 : decode cX5_operand 4 = .ok (.getfield 47, 3) := by decide +kernel
theorem dX5_operand_7 : decode cX5_operand 7 = .ok (.iconst 1, 1) := by decide +kernel
theorem dX5_operand_8 : decode cX5_operand 8 = .ok (.if_icmp .ne 28, 3) := by decide +kernel
theorem dX5_operand_11 : decode cX5_operand 11 = .ok (.aload_n 0, 1) := by decide +kernel
theorem dX5_operand_12 : decode cX5_operand 12 = .ok (.getfield 25, 3) := by decide +kernel
theorem dX5_operand_15 : decode cX5_operand 15 = .ok (.iconst 0, 1) := by decide +kernel
theorem dX5_operand_16 : decode cX5_operand 16 = .ok (.aload_n 0, 1) := by decide +kernel
theorem dX5_operand_17 : decode cX5_operand 17 = .ok (.getfield 12, 3) := by decide +kernel
theorem dX5_operand_20 : decode cX5_operand 20 = .ok (.getfield 57, 3) := by decide +kernel
theorem dX5_operand_23 : decode cX5_operand 23 = .ok (.invokevirtual 95, 3) := by decide +kernel
theorem dX5_operand_26 : decode cX5_operand 26 = .ok (.aload_n 0, 1) := by decide +kernel
theorem dX5_operand_27 : decode cX5_operand 27 = .ok (.getfield 12, 3) := by decide +kernel
theorem dX5_operand_30 : decode cX5_operand 30 = .ok (.invokevirtual 50, 3) := by decide +kernel
theorem dX5_operand_33 : decode cX5_operand 33 = .ok (.goto 52, 3) := by decide +kernel
theorem dX5_operand_36 : decode cX5_operand 36 = .ok (.aload_n 0, 1) := by decide +kernel
theorem dX5_operand_37 : decode cX5_operand 37 = .ok (.getfield 12, 3) := by decide +kernel
theorem dX5_operand_40 : decode cX5_operand 40 = .ok (.getfield 47, 3) := by decide +kernel
theorem dX5_operand_43 : decode cX5_operand 43 = .ok (.aload_n 0, 1) := by decide +kernel
theorem dX5_operand_44 : decode cX5_operand 44 = .ok (.getfield 64, 3) := by decide +kernel
theorem dX5_operand_47 : decode cX5_operand 47 = .ok (.if_icmp .lt 33, 3) := by decide +kernel
theorem dX5_operand_50 : decode cX5_operand 50 = .ok (.aload_n 0, 1) := by decide +kernel
theorem dX5_operand_51 : decode cX5_operand 51 = .ok (.getfield 25, 3) := by decide +kernel
theorem dX5_operand_54 : decode cX5_operand 54 = .ok (.iconst 1, 1) := by decide +kernel
theorem dX5_operand_55 : decode cX5_operand 55 = .ok (.aload_n 0, 1) := by decide +kernel
theorem dX5_operand_56 : decode cX5_operand 56 = .ok (.getfield 12, 3) := by decide +kernel
theorem dX5_operand_59 : decode cX5_operand 59 = .ok (.getfield 47, 3) := by decide +kernel
theorem dX5_operand_62 : decode cX5_operand 62 = .ok (.aload_n 0, 1) := by decide +kernel
theorem dX5_operand_63 : decode cX5_operand 63 = .ok (.getfield 64, 3) := by decide +kernel
theorem dX5_operand_66 : decode cX5_operand 66 = .ok (.isub, 1) := by decide +kernel
theorem dX5_operand_67 : decode cX5_operand 67 = .ok (.invokevirtual 95, 3) := by decide +kernel
theorem dX5_operand_70 : decode cX5_operand 70 = .ok (.aload_n 0, 1) := by decide +kernel
theorem dX5_operand_71 : decode cX5_operand 71 = .ok (.getfield 12, 3) := by decide +kernel
theorem dX5_operand_74 : decode cX5_operand 74 = .ok (.invokevirtual 50, 3) := by decide +kernel
theorem dX5_operand_77 : decode cX5_operand 77 = .ok (.goto 8, 3) := by decide +kernel
theorem dX5_operand_80 : decode cX5_operand 80 = .ok (.aload_n 0, 1) := by decide +kernel
theorem dX5_operand_81 : decode cX5_operand 81 = .ok (.iconst 1, 1) := by decide +kernel
theorem dX5_operand_82 : decode cX5_operand 82 = .ok (.invokevirtual 53, 3) := by decide +kernel
theorem dX5_operand_85 : decode cX5_operand 85 = .ok (.return_, 1) := by decide +kernel
theorem dX5_plan_0 : decode cX5_plan 0 = .ok (.aload_n 0, 1) := by decide +kernel
theorem dX5_plan_1 : decode cX5_plan 1 = .ok (.getfield 12, 3) := by decide +kernel
theorem dX5_plan_4 : decode cX5_plan 4 = .ok (.ldc 113, 2) := by decide +kernel
theorem dX5_plan_6 : decode cX5_plan 6 = .ok (.invokevirtual 60, 3) := by decide +kernel
theorem dX5_plan_9 : decode cX5_plan 9 = .ok (.iconst 0, 1) := by decide +kernel
theorem dX5_plan_10 : decode cX5_plan 10 = .ok (.istore_n 2, 1) := by decide +kernel
theorem dX5_plan_11 : decode cX5_plan 11 = .ok (.iload_n 2, 1) := by decide +kernel
theorem dX5_plan_12 : decode cX5_plan 12 = .ok (.sipush 400, 3) := by decide +kernel
theorem dX5_plan_15 : decode cX5_plan 15 = .ok (.if_icmp .ge 125, 3) := by decide +kernel
theorem dX5_plan_18 : decode cX5_plan 18 = .ok (.aload_n 0, 1) := by decide +kernel
theorem dX5_plan_19 : decode cX5_plan 19 = .ok (.getfield 35, 3) := by decide +kernel
theorem dX5_plan_22 : decode cX5_plan 22 = .ok (.ifCond .ne 118, 3) := by decide +kernel
theorem dX5_plan_25 : decode cX5_plan 25 = .ok (.aload_n 0, 1) := by decide +kernel
theorem dX5_plan_26 : decode cX5_plan 26 = .ok (.getfield 12, 3) := by decide +kernel
theorem dX5_plan_29 : decode cX5_plan 29 = .ok (.getfield 47, 3) := by decide +kernel
theorem dX5_plan_32 : decode cX5_plan 32 = .ok (.iconst 2, 1) := by decide +kernel
theorem dX5_plan_33 : decode cX5_plan 33 = .ok (.if_icmp .eq 107, 3) := by decide +kernel
theorem dX5_plan_36 : decode cX5_plan 36 = .ok (.aload_n 0, 1) := by decide +kernel
theorem dX5_plan_37 : decode cX5_plan 37 = .ok (.getfield 12, 3) := by decide +kernel
theorem dX5_plan_40 : decode cX5_plan 40 = .ok (.getfield 47, 3) := by decide +kernel
theorem dX5_plan_43 : decode cX5_plan 43 = .ok (.sipush 256, 3) := by decide +kernel
theorem dX5_plan_46 : decode cX5_plan 46 = .ok (.if_icmp .eq 24, 3) := by decide +kernel
theorem dX5_plan_49 : decode cX5_plan 49 = .ok (.aload_n 0, 1) := by decide +kernel
theorem dX5_plan_50 : decode cX5_plan 50 = .ok (.getfield 12, 3) := by decide +kernel
theorem dX5_plan_53 : decode cX5_plan 53 = .ok (.getfield 47, 3) := by decide +kernel
theorem dX5_plan_56 : decode cX5_plan 56 = .ok (.sipush 261, 3) := by decide +kernel
theorem dX5_plan_59 : decode cX5_plan 59 = .ok (.if_icmp .eq 11, 3) := by decide +kernel
theorem dX5_plan_62 : decode cX5_plan 62 = .ok (.aload_n 0, 1) := by decide +kernel
theorem dX5_plan_63 : decode cX5_plan 63 = .ok (.iconst 1, 1) := by decide +kernel
theorem dX5_plan_64 : decode cX5_plan 64 = .ok (.invokevirtual 53, 3) := by decide +kernel
theorem dX5_plan_67 : decode cX5_plan 67 = .ok (.goto 67, 3) := by decide +kernel
theorem dX5_plan_70 : decode cX5_plan 70 = .ok (.aload_n 0, 1) := by decide +kernel
theorem dX5_plan_71 : decode cX5_plan 71 = .ok (.getfield 38, 3) := by decide +kernel
theorem dX5_plan_74 : decode cX5_plan 74 = .ok (.bipush 12, 2) := by decide +kernel
theorem dX5_plan_76 : decode cX5_plan 76 = .ok (.if_icmp .lt 11, 3) := by decide +kernel
theorem dX5_plan_79 : decode cX5_plan 79 = .ok (.aload_n 0, 1) := by decide +kernel
theorem dX5_plan_80 : decode cX5_plan 80 = .ok (.iconst 3, 1) := by decide +kernel
theorem dX5_plan_81 : decode cX5_plan 81 = .ok (.invokevirtual 53, 3) := by decide +kernel
theorem dX5_plan_84 : decode cX5_plan 84 = .ok (.goto 50, 3) := by decide +kernel
theorem dX5_plan_87 : decode cX5_plan 87 = .ok (.aload_n 0, 1) := by decide +kernel
theorem dX5_plan_88 : decode cX5_plan 88 = .ok (.sipush 256, 3) := by decide +kernel
theorem dX5_plan_91 : decode cX5_plan 91 = .ok (.invokevirtual 79, 3) := by decide +kernel
theorem dX5_plan_94 : decode cX5_plan 94 = .ok (.ifCond .eq 11, 3) := by decide +kernel
theorem dX5_plan_97 : decode cX5_plan 97 = .ok (.aload_n 0, 1) := by decide +kernel
theorem dX5_plan_98 : decode cX5_plan 98 = .ok (.iload_n 1, 1) := by decide +kernel
theorem dX5_plan_99 : decode cX5_plan 99 = .ok (.invokevirtual 115, 3) := by decide +kernel
theorem dX5_plan_102 : decode cX5_plan 102 = .ok (.goto 16, 3) := by decide +kernel
theorem dX5_plan_105 : decode cX5_plan 105 = .ok (.aload_n 0, 1) := by decide +kernel
theorem dX5_plan_106 : decode cX5_plan 106 = .ok (.sipush 261, 3) := by decide +kernel
theorem dX5_plan_109 : decode cX5_plan 109 = .ok (.invokevirtual 86, 3) := by decide +kernel
theorem dX5_plan_112 : decode cX5_plan 112 = .ok (.aload_n 0, 1) := by decide +kernel
theorem dX5_plan_113 : decode cX5_plan 113 = .ok (.iconst 0, 1) := by decide +kernel
theorem dX5_plan_114 : decode cX5_plan 114 = .ok (.iconst (-1), 1) := by decide +kernel
theorem dX5_plan_115 : decode cX5_plan 115 = .ok (.invokevirtual 118, 3) := by decide +kernel
theorem dX5_plan_118 : decode cX5_plan 118 = .ok (.aload_n 0, 1) := by decide +kernel
theorem dX5_plan_119 : decode cX5_plan 119 = .ok (.bipush 59, 2) := by decide +kernel
theorem dX5_plan_121 : decode cX5_plan 121 = .ok (.invokevirtual 86, 3) := by decide +kernel
theorem dX5_plan_124 : decode cX5_plan 124 = .ok (.aload_n 0, 1) := by decide +kernel
theorem dX5_plan_125 : decode cX5_plan 125 = .ok (.dup, 1) := by decide +kernel
theorem dX5_plan_126 : decode cX5_plan 126 = .ok (.getfield 38, 3) := by decide +kernel
theorem dX5_plan_129 : decode cX5_plan 129 = .ok (.iconst 1, 1) := by decide +kernel
theorem dX5_plan_130 : decode cX5_plan 130 = .ok (.iadd, 1) := by decide +kernel
theorem dX5_plan_131 : decode cX5_plan 131 = .ok (.putfield 38, 3) := by decide +kernel
theorem dX5_plan_134 : decode cX5_plan 134 = .ok (.iinc 2 1, 3) := by decide +kernel
theorem dX5_plan_137 : decode cX5_plan 137 = .ok (.goto (-126), 3) := by decide +kernel
theorem dX5_plan_140 : decode cX5_plan 140 = .ok (.aload_n 0, 1) := by decide +kernel
theorem dX5_plan_141 : decode cX5_plan 141 = .ok (.getfield 35, 3) := by decide +kernel
theorem dX5_plan_144 : decode cX5_plan 144 = .ok (.ifCond .ne 7, 3) := by decide +kernel
theorem dX5_plan_147 : decode cX5_plan 147 = .ok (.iconst 1, 1) := by decide +kernel
theorem dX5_plan_148 : decode cX5_plan 148 = .ok (.goto 4, 3) := by decide +kernel
theorem dX5_plan_151 : decode cX5_plan 151 = .ok (.iconst 0, 1) := by decide +kernel
theorem dX5_plan_152 : decode cX5_plan 152 = .ok (.ireturn, 1) := by decide +kernel
theorem dX5_throwOrder_0 : decode cX5_throwOrder 0 = .ok (.aload_n 0, 1) := by decide +kernel
theorem dX5_throwOrder_1 : decode cX5_throwOrder 1 = .ok (.iconst 0, 1) := by decide +kernel
theorem dX5_throwOrder_2 : decode cX5_throwOrder 2 = .ok (.aload_n 0, 1) := by decide +kernel
theorem dX5_throwOrder_3 : decode cX5_throwOrder 3 = .ok (.iconst 0, 1) := by decide +kernel
theorem dX5_throwOrder_4 : decode cX5_throwOrder 4 = .ok (.bipush 99, 2) := by decide +kernel
theorem dX5_throwOrder_6 : decode cX5_throwOrder 6 = .ok (.invokevirtual 109, 3) := by decide +kernel
theorem dX5_throwOrder_9 : decode cX5_throwOrder 9 = .ok (.invokevirtual 118, 3) := by decide +kernel
theorem dX5_throwOrder_12 : decode cX5_throwOrder 12 = .ok (.aload_n 0, 1) := by decide +kernel
theorem dX5_throwOrder_13 : decode cX5_throwOrder 13 = .ok (.sipush 257, 3) := by decide +kernel
theorem dX5_throwOrder_16 : decode cX5_throwOrder 16 = .ok (.invokevirtual 86, 3) := by decide +kernel
theorem dX5_throwOrder_19 : decode cX5_throwOrder 19 = .ok (.aload_n 0, 1) := by decide +kernel
theorem dX5_throwOrder_20 : decode cX5_throwOrder 20 = .ok (.iconst 1, 1) := by decide +kernel
theorem dX5_throwOrder_21 : decode cX5_throwOrder 21 = .ok (.aload_n 0, 1) := by decide +kernel
theorem dX5_throwOrder_22 : decode cX5_throwOrder 22 = .ok (.iconst 0, 1) := by decide +kernel
theorem dX5_throwOrder_23 : decode cX5_throwOrder 23 = .ok (.bipush 60, 2) := by decide +kernel
theorem dX5_throwOrder_25 : decode cX5_throwOrder 25 = .ok (.invokevirtual 109, 3) := by decide +kernel
theorem dX5_throwOrder_28 : decode cX5_throwOrder 28 = .ok (.invokevirtual 118, 3) := by decide +kernel
theorem dX5_throwOrder_31 : decode cX5_throwOrder 31 = .ok (.aload_n 0, 1) := by decide +kernel
theorem dX5_throwOrder_32 : decode cX5_throwOrder 32 = .ok (.sipush 258, 3) := by decide +kernel
theorem dX5_throwOrder_35 : decode cX5_throwOrder 35 = .ok (.invokevirtual 86, 3) := by decide +kernel
theorem dX5_throwOrder_38 : decode cX5_throwOrder 38 = .ok (.aload_n 0, 1) := by decide +kernel
theorem dX5_throwOrder_39 : decode cX5_throwOrder 39 = .ok (.iconst 2, 1) := by decide +kernel
theorem dX5_throwOrder_40 : decode cX5_throwOrder 40 = .ok (.aload_n 0, 1) := by decide +kernel
theorem dX5_throwOrder_41 : decode cX5_throwOrder 41 = .ok (.iconst 0, 1) := by decide +kernel
theorem dX5_throwOrder_42 : decode cX5_throwOrder 42 = .ok (.iload_n 1, 1) := by decide +kernel
theorem dX5_throwOrder_43 : decode cX5_throwOrder 43 = .ok (.iconst 1, 1) := by decide +kernel
theorem dX5_throwOrder_44 : decode cX5_throwOrder 44 = .ok (.isub, 1) := by decide +kernel
theorem dX5_throwOrder_45 : decode cX5_throwOrder 45 = .ok (.invokevirtual 109, 3) := by decide +kernel
theorem dX5_throwOrder_48 : decode cX5_throwOrder 48 = .ok (.invokevirtual 118, 3) := by decide +kernel
theorem dX5_throwOrder_51 : decode cX5_throwOrder 51 = .ok (.aload_n 0, 1) := by decide +kernel
theorem dX5_throwOrder_52 : decode cX5_throwOrder 52 = .ok (.iconst 3, 1) := by decide +kernel
theorem dX5_throwOrder_53 : decode cX5_throwOrder 53 = .ok (.aload_n 0, 1) := by decide +kernel
theorem dX5_throwOrder_54 : decode cX5_throwOrder 54 = .ok (.sipush 259, 3) := by decide +kernel
theorem dX5_throwOrder_57 : decode cX5_throwOrder 57 = .ok (.invokevirtual 79, 3) := by decide +kernel
theorem dX5_throwOrder_60 : decode cX5_throwOrder 60 = .ok (.ifCond .eq 13, 3) := by decide +kernel
theorem dX5_throwOrder_63 : decode cX5_throwOrder 63 = .ok (.aload_n 0, 1) := by decide +kernel
theorem dX5_throwOrder_64 : decode cX5_throwOrder 64 = .ok (.iconst 0, 1) := by decide +kernel
theorem dX5_throwOrder_65 : decode cX5_throwOrder 65 = .ok (.bipush 9, 2) := by decide +kernel
theorem dX5_throwOrder_67 : decode cX5_throwOrder 67 = .ok (.invokevirtual 109, 3) := by decide +kernel
theorem dX5_throwOrder_70 : decode cX5_throwOrder 70 = .ok (.goto 4, 3) := by decide +kernel
theorem dX5_throwOrder_73 : decode cX5_throwOrder 73 = .ok (.iconst 0, 1) := by decide +kernel
theorem dX5_throwOrder_74 : decode cX5_throwOrder 74 = .ok (.invokevirtual 118, 3) := by decide +kernel
theorem dX5_throwOrder_77 : decode cX5_throwOrder 77 = .ok (.aload_n 0, 1) := by decide +kernel
theorem dX5_throwOrder_78 : decode cX5_throwOrder 78 = .ok (.iconst 4, 1) := by decide +kernel
theorem dX5_throwOrder_79 : decode cX5_throwOrder 79 = .ok (.aload_n 0, 1) := by decide +kernel
theorem dX5_throwOrder_80 : decode cX5_throwOrder 80 = .ok (.sipush 260, 3) := by decide +kernel
theorem dX5_throwOrder_83 : decode cX5_throwOrder 83 = .ok (.invokevirtual 79, 3) := by decide +kernel
theorem dX5_throwOrder_86 : decode cX5_throwOrder 86 = .ok (.ifCond .eq 14, 3) := by decide +kernel
theorem dX5_throwOrder_89 : decode cX5_throwOrder 89 = .ok (.aload_n 0, 1) := by decide +kernel
theorem dX5_throwOrder_90 : decode cX5_throwOrder 90 = .ok (.iconst 0, 1) := by decide +kernel
theorem dX5_throwOrder_91 : decode cX5_throwOrder 91 = .ok (.sipush 9999, 3) := by decide +kernel
theorem dX5_throwOrder_94 : decode cX5_throwOrder 94 = .ok (.invokevirtual 109, 3) := by decide +kernel
theorem dX5_throwOrder_97 : decode cX5_throwOrder 97 = .ok (.goto 4, 3) := by decide +kernel
theorem dX5_throwOrder_100 : decode cX5_throwOrder 100 = .ok (.iconst (-1), 1) := by decide +kernel
theorem dX5_throwOrder_101 : decode cX5_throwOrder 101 = .ok (.invokevirtual 118, 3) := by decide +kernel
theorem dX5_throwOrder_104 : decode cX5_throwOrder 104 = .ok (.return_, 1) := by decide +kernel
theorem dX5_part_0 : decode cX5_part 0 = .ok (.aload_n 0, 1) := by decide +kernel
theorem dX5_part_1 : decode cX5_part 1 = .ok (.getfield 38, 3) := by decide +kernel
theorem dX5_part_4 : decode cX5_part 4 = .ok (.iconst 5, 1) := by decide +kernel
theorem dX5_part_5 : decode cX5_part 5 = .ok (.imul, 1) := by decide +kernel
theorem dX5_part_6 : decode cX5_part 6 = .ok (.iload_n 1, 1) := by decide +kernel
theorem dX5_part_7 : decode cX5_part 7 = .ok (.iadd, 1) := by decide +kernel
theorem dX5_part_8 : decode cX5_part 8 = .ok (.istore_n 3, 1) := by decide +kernel
theorem dX5_part_9 : decode cX5_part 9 = .ok (.iload_n 3, 1) := by decide +kernel
theorem dX5_part_10 : decode cX5_part 10 = .ok (.ifCond .lt 19, 3) := by decide +kernel
theorem dX5_part_13 : decode cX5_part 13 = .ok (.iload_n 3, 1) := by decide +kernel
theorem dX5_part_14 : decode cX5_part 14 = .ok (.aload_n 0, 1) := by decide +kernel
theorem dX5_part_15 : decode cX5_part 15 = .ok (.getfield 31, 3) := by decide +kernel
theorem dX5_part_18 : decode cX5_part 18 = .ok (.arraylength, 1) := by decide +kernel
theorem dX5_part_19 : decode cX5_part 19 = .ok (.if_icmp .ge 10, 3) := by decide +kernel
theorem dX5_part_22 : decode cX5_part 22 = .ok (.aload_n 0, 1) := by decide +kernel
theorem dX5_part_23 : decode cX5_part 23 = .ok (.getfield 31, 3) := by decide +kernel
theorem dX5_part_26 : decode cX5_part 26 = .ok (.iload_n 3, 1) := by decide +kernel
theorem dX5_part_27 : decode cX5_part 27 = .ok (.iload_n 2, 1) := by decide +kernel
theorem dX5_part_28 : decode cX5_part 28 = .ok (.iastore, 1) := by decide +kernel
theorem dX5_part_29 : decode cX5_part 29 = .ok (.return_, 1) := by decide +kernel
theorem dX6_init_0 : decode cX6_init 0 = .ok (.aload_n 0, 1) := by decide +kernel
theorem dX6_init_1 : decode cX6_init 1 = .ok (.invokespecial 3, 3) := by decide +kernel
theorem dX6_init_4 : decode cX6_init 4 = .ok (.aload_n 0, 1) := by decide +kernel
theorem dX6_init_5 : decode cX6_init 5 = .ok (.sipush 400, 3) := by decide +kernel
theorem dX6_init_8 : decode cX6_init 8 = .ok (.newarray .byte, 2) := by decide +kernel
theorem dX6_init_10 : decode cX6_init 10 = .ok (.putfield 11, 3) := by decide +kernel
theorem dX6_init_13 : decode cX6_init 13 = .ok (.aload_n 0, 1) := by decide +kernel
theorem dX6_init_14 : decode cX6_init 14 = .ok (.sipush 401, 3) := by decide +kernel
theorem dX6_init_17 : decode cX6_init 17 = .ok (.newarray .int, 2) := by decide +kernel
theorem dX6_init_19 : decode cX6_init 19 = .ok (.putfield 15, 3) := by decide +kernel
theorem dX6_init_22 : decode cX6_init 22 = .ok (.aload_n 0, 1) := by decide +kernel
theorem dX6_init_23 : decode cX6_init 23 = .ok (.sipush 401, 3) := by decide +kernel
theorem dX6_init_26 : decode cX6_init 26 = .ok (.newarray .int, 2) := by decide +kernel
theorem dX6_init_28 : decode cX6_init 28 = .ok (.putfield 19, 3) := by decide +kernel
theorem dX6_init_31 : decode cX6_init 31 = .ok (.aload_n 0, 1) := by decide +kernel
theorem dX6_init_32 : decode cX6_init 32 = .ok (.sipush 401, 3) := by decide +kernel
theorem dX6_init_35 : decode cX6_init 35 = .ok (.newarray .int, 2) := by decide +kernel
theorem dX6_init_37 : decode cX6_init 37 = .ok (.putfield 22, 3) := by decide +kernel
theorem dX6_init_40 : decode cX6_init 40 = .ok (.return_, 1) := by decide +kernel
theorem dX6_add_0 : decode cX6_add 0 = .ok (.bipush 24, 2) := by decide +kernel
theorem dX6_add_2 : decode cX6_add 2 = .ok (.istore_n 2, 1) := by decide +kernel
theorem dX6_add_3 : decode cX6_add 3 = .ok (.iload_n 2, 1) := by decide +kernel
theorem dX6_add_4 : decode cX6_add 4 = .ok (.ifCond .lt 42, 3) := by decide +kernel
theorem dX6_add_7 : decode cX6_add 7 = .ok (.aload_n 0, 1) := by decide +kernel
theorem dX6_add_8 : decode cX6_add 8 = .ok (.getfield 25, 3) := by decide +kernel
theorem dX6_add_11 : decode cX6_add 11 = .ok (.sipush 400, 3) := by decide +kernel
theorem dX6_add_14 : decode cX6_add 14 = .ok (.if_icmp .ge 26, 3) := by decide +kernel
theorem dX6_add_17 : decode cX6_add 17 = .ok (.aload_n 0, 1) := by decide +kernel
theorem dX6_add_18 : decode cX6_add 18 = .ok (.getfield 11, 3) := by decide +kernel
theorem dX6_add_21 : decode cX6_add 21 = .ok (.aload_n 0, 1) := by decide +kernel
theorem dX6_add_22 : decode cX6_add 22 = .ok (.getfield 25, 3) := by decide +kernel
theorem dX6_add_25 : decode cX6_add 25 = .ok (.iload_n 1, 1) := by decide +kernel
theorem dX6_add_26 : decode cX6_add 26 = .ok (.iload_n 2, 1) := by decide +kernel
theorem dX6_add_27 : decode cX6_add 27 = .ok (.iushr, 1) := by decide +kernel
theorem dX6_add_28 : decode cX6_add 28 = .ok (.i2b, 1) := by decide +kernel
theorem dX6_add_29 : decode cX6_add 29 = .ok (.bastore, 1) := by decide +kernel
theorem dX6_add_30 : decode cX6_add 30 = .ok (.aload_n 0, 1) := by decide +kernel
theorem dX6_add_31 : decode cX6_add 31 = .ok (.dup, 1) := by decide +kernel
theorem dX6_add_32 : decode cX6_add 32 = .ok (.getfield 25, 3) := by decide +kernel
theorem dX6_add_35 : decode cX6_add 35 = .ok (.iconst 1, 1) := by decide +kernel
theorem dX6_add_36 : decode cX6_add 36 = .ok (.iadd, 1) := by decide +kernel
theorem dX6_add_37 : decode cX6_add 37 = .ok (.putfield 25, 3) := by decide +kernel
theorem dX6_add_40 : decode cX6_add 40 = .ok (.iinc 2 (-8), 3) := by decide +kernel
theorem dX6_add_43 : decode cX6_add 43 = .ok (.goto (-40), 3) := by decide +kernel
theorem dX6_add_46 : decode cX6_add 46 = .ok (.return_, 1) := by decide +kernel
theorem dX6_next_0 : decode cX6_next 0 = .ok (.aload_n 0, 1) := by decide +kernel
theorem dX6_next_1 : decode cX6_next 1 = .ok (.dup, 1) := by decide +kernel
theorem dX6_next_2 : decode cX6_next 2 = .ok (.getfield 29, 3) := by decide +kernel
theorem dX6_next_5 : decode cX6_next 5 = .ok (.iconst 1, 1) := by decide +kernel
theorem dX6_next_6 : decode cX6_next 6 = .ok (.iadd, 1) := by decide +kernel
theorem dX6_next_7 : decode cX6_next 7 = .ok (.putfield 29, 3) := by decide +kernel
theorem dX6_next_10 : decode cX6_next 10 = .ok (.aload_n 0, 1) := by decide +kernel
theorem dX6_next_11 : decode cX6_next 11 = .ok (.getfield 29, 3) := by decide +kernel
theorem dX6_next_14 : decode cX6_next 14 = .ok (.ifCond .lt 14, 3) := by decide +kernel
theorem dX6_next_17 : decode cX6_next 17 = .ok (.aload_n 0, 1) := by decide +kernel
theorem dX6_next_18 : decode cX6_next 18 = .ok (.getfield 29, 3) := by decide +kernel
theorem dX6_next_21 : decode cX6_next 21 = .ok (.aload_n 0, 1) := by decide +kernel
theorem dX6_next_22 : decode cX6_next 22 = .ok (.getfield 32, 3) := by decide +kernel
theorem dX6_next_25 : decode cX6_next 25 = .ok (.if_icmp .lt 4, 3) := by decide +kernel
theorem dX6_next_28 : decode cX6_next 28 = .ok (.return_, 1) := by decide +kernel
theorem dX6_next_29 : decode cX6_next 29 = .ok (.aload_n 0, 1) := by decide +kernel
theorem dX6_next_30 : decode cX6_next 30 = .ok (.aload_n 0, 1) := by decide +kernel
theorem dX6_next_31 : decode cX6_next 31 = .ok (.getfield 15, 3) := by decide +kernel
theorem dX6_next_34 : decode cX6_next 34 = .ok (.aload_n 0, 1) := by decide +kernel
theorem dX6_next_35 : decode cX6_next 35 = .ok (.getfield 29, 3) := by decide +kernel
theorem dX6_next_38 : decode cX6_next 38 = .ok (.iaload, 1) := by decide +kernel
theorem dX6_next_39 : decode cX6_next 39 = .ok (.putfield 35, 3) := by decide +kernel
theorem dX6_next_42 : decode cX6_next 42 = .ok (.aload_n 0, 1) := by decide +kernel
theorem dX6_next_43 : decode cX6_next 43 = .ok (.aload_n 0, 1) := by decide +kernel
theorem dX6_next_44 : decode cX6_next 44 = .ok (.getfield 19, 3) := by decide +kernel
theorem dX6_next_47 : decode cX6_next 47 = .ok (.aload_n 0, 1) := by decide +kernel
theorem dX6_next_48 : decode cX6_next 48 = .ok (.getfield 29, 3) := by decide +kernel
theorem dX6_next_51 : decode cX6_next 51 = .ok (.iaload, 1) := by decide +kernel
theorem dX6_next_52 : decode cX6_next 52 = .ok (.putfield 38, 3) := by decide +kernel
theorem dX6_next_55 : decode cX6_next 55 = .ok (.aload_n 0, 1) := by decide +kernel
theorem dX6_next_56 : decode cX6_next 56 = .ok (.aload_n 0, 1) := by decide +kernel
theorem dX6_next_57 : decode cX6_next 57 = .ok (.getfield 22, 3) := by decide +kernel
theorem dX6_next_60 : decode cX6_next 60 = .ok (.aload_n 0, 1) := by decide +kernel
theorem dX6_next_61 : decode cX6_next 61 = .ok (.getfield 29, 3) := by decide +kernel
theorem dX6_next_64 : decode cX6_next 64 = .ok (.iaload, 1) := by decide +kernel
theorem dX6_next_65 : decode cX6_next 65 = .ok (.putfield 41, 3) := by decide +kernel
theorem dX6_next_68 : decode cX6_next 68 = .ok (.return_, 1) := by decide +kernel
theorem dX6_byteAt_0 : decode cX6_byteAt 0 = .ok (.iload_n 1, 1) := by decide +kernel
theorem dX6_byteAt_1 : decode cX6_byteAt 1 = .ok (.ifCond .lt 27, 3) := by decide +kernel
theorem dX6_byteAt_4 : decode cX6_byteAt 4 = .ok (.iload_n 1, 1) := by decide +kernel
theorem dX6_byteAt_5 : decode cX6_byteAt 5 = .ok (.aload_n 0, 1) := by decide +kernel
theorem dX6_byteAt_6 : decode cX6_byteAt 6 = .ok (.getfield 25, 3) := by decide +kernel
theorem dX6_byteAt_9 : decode cX6_byteAt 9 = .ok (.if_icmp .ge 19, 3) := by decide +kernel
theorem dX6_byteAt_12 : decode cX6_byteAt 12 = .ok (.iload_n 1, 1) := by decide +kernel
theorem dX6_byteAt_13 : decode cX6_byteAt 13 = .ok (.sipush 400, 3) := by decide +kernel
theorem dX6_byteAt_16 : decode cX6_byteAt 16 = .ok (.if_icmp .ge 12, 3) := by decide +kernel
theorem dX6_byteAt_19 : decode cX6_byteAt 19 = .ok (.aload_n 0, 1) := by decide +kernel
theorem dX6_byteAt_20 : decode cX6_byteAt 20 = .ok (.getfield 11, 3) := by decide +kernel
theorem dX6_byteAt_23 : decode cX6_byteAt 23 = .ok (.iload_n 1, 1) := by decide +kernel
theorem dX6_byteAt_24 : decode cX6_byteAt 24 = .ok (.baload, 1) := by decide +kernel
theorem dX6_byteAt_25 : decode cX6_byteAt 25 = .ok (.goto 4, 3) := by decide +kernel
theorem dX6_byteAt_28 : decode cX6_byteAt 28 = .ok (.iconst 0, 1) := by decide +kernel
theorem dX6_byteAt_29 : decode cX6_byteAt 29 = .ok (.ireturn, 1) := by decide +kernel
theorem dX6_cut_0 : decode cX6_cut 0 = .ok (.aload_n 0, 1) := by decide +kernel
theorem dX6_cut_1 : decode cX6_cut 1 = .ok (.iconst 0, 1) := by decide +kernel
theorem dX6_cut_2 : decode cX6_cut 2 = .ok (.putfield 32, 3) := by decide +kernel
theorem dX6_cut_5 : decode cX6_cut 5 = .ok (.iconst 0, 1) := by decide +kernel
theorem dX6_cut_6 : decode cX6_cut 6 = .ok (.istore_n 2, 1) := by decide +kernel
theorem dX6_cut_7 : decode cX6_cut 7 = .ok (.iconst 0, 1) := by decide +kernel
theorem dX6_cut_8 : decode cX6_cut 8 = .ok (.istore_n 3, 1) := by decide +kernel
theorem dX6_cut_9 : decode cX6_cut 9 = .ok (.iload_n 3, 1) := by decide +kernel
theorem dX6_cut_10 : decode cX6_cut 10 = .ok (.sipush 400, 3) := by decide +kernel
theorem dX6_cut_13 : decode cX6_cut 13 = .ok (.if_icmp .ge 168, 3) := by decide +kernel
theorem dX6_cut_16 : decode cX6_cut 16 = .ok (.iload_n 2, 1) := by decide +kernel
theorem dX6_cut_17 : decode cX6_cut 17 = .ok (.aload_n 0, 1) := by decide +kernel
theorem dX6_cut_18 : decode cX6_cut 18 = .ok (.getfield 25, 3) := by decide +kernel
theorem dX6_cut_21 : decode cX6_cut 21 = .ok (.if_icmp .ge 160, 3) := by decide +kernel
theorem dX6_cut_24 : decode cX6_cut 24 = .ok (.aload_n 0, 1) := by decide +kernel
theorem dX6_cut_25 : decode cX6_cut 25 = .ok (.iload_n 2, 1) := by decide +kernel
theorem dX6_cut_26 : decode cX6_cut 26 = .ok (.invokevirtual 44, 3) := by decide +kernel
theorem dX6_cut_29 : decode cX6_cut 29 = .ok (.istore 4, 2) := by decide +kernel
theorem dX6_cut_31 : decode cX6_cut 31 = .ok (.iload 4, 2) := by decide +kernel
theorem dX6_cut_33 : decode cX6_cut 33 = .ok (.bipush 32, 2) := by decide +kernel
theorem dX6_cut_35 : decode cX6_cut 35 = .ok (.if_icmp .eq 10, 3) := by decide +kernel
theorem dX6_cut_38 : decode cX6_cut 38 = .ok (.iload 4, 2) := by decide +kernel
theorem dX6_cut_40 : decode cX6_cut 40 = .ok (.bipush 10, 2) := by decide +kernel
theorem dX6_cut_42 : decode cX6_cut 42 = .ok (.if_icmp .ne 9, 3) := by decide +kernel
theorem dX6_cut_45 : decode cX6_cut 45 = .ok (.iinc 2 1, 3) := by decide +kernel
theorem dX6_cut_48 : decode cX6_cut 48 = .ok (.goto 127, 3) := by decide +kernel
theorem dX6_cut_51 : decode cX6_cut 51 = .ok (.iload 4, 2) := by decide +kernel
theorem dX6_cut_53 : decode cX6_cut 53 = .ok (.invokestatic 48, 3) := by decide +kernel
theorem dX6_cut_56 : decode cX6_cut 56 = .ok (.ifCond .eq 49, 3) := by decide +kernel
theorem dX6_cut_59 : decode cX6_cut 59 = .ok (.aload_n 0, 1) := by decide +kernel
theorem dX6_cut_60 : decode cX6_cut 60 = .ok (.iload_n 2, 1) := by decide +kernel
theorem dX6_cut_61 : decode cX6_cut 61 = .ok (.iconst 1, 1) := by decide +kernel
theorem dX6_cut_62 : decode cX6_cut 62 = .ok (.invokevirtual 52, 3) := by decide +kernel
theorem dX6_cut_65 : decode cX6_cut 65 = .ok (.istore 5, 2) := by decide +kernel
theorem dX6_cut_67 : decode cX6_cut 67 = .ok (.aload_n 0, 1) := by decide +kernel
theorem dX6_cut_68 : decode cX6_cut 68 = .ok (.aload_n 1, 1) := by decide +kernel
theorem dX6_cut_69 : decode cX6_cut 69 = .ok (.iload_n 2, 1) := by decide +kernel
theorem dX6_cut_70 : decode cX6_cut 70 = .ok (.iload 5, 2) := by decide +kernel
theorem dX6_cut_72 : decode cX6_cut 72 = .ok (.invokevirtual 56, 3) := by decide +kernel
theorem dX6_cut_75 : decode cX6_cut 75 = .ok (.istore 6, 2) := by decide +kernel
theorem dX6_cut_77 : decode cX6_cut 77 = .ok (.aload_n 0, 1) := by decide +kernel
theorem dX6_cut_78 : decode cX6_cut 78 = .ok (.iload 6, 2) := by decide +kernel
theorem dX6_cut_80 : decode cX6_cut 80 = .ok (.iconst (-1), 1) := by decide +kernel
theorem dX6_cut_81 : decode cX6_cut 81 = .ok (.if_icmp .ne 7, 3) := by decide +kernel
theorem dX6_cut_84 : decode cX6_cut 84 = .ok (.iconst 0, 1) := by decide +kernel
theorem dX6_cut_85 : decode cX6_cut 85 = .ok (.goto 9, 3) := by decide +kernel
theorem dX6_cut_88 : decode cX6_cut 88 = .ok (.sipush 256, 3) := by decide +kernel
theorem dX6_cut_91 : decode cX6_cut 91 = .ok (.iload 6, 2) := by decide +kernel
theorem dX6_cut_93 : decode cX6_cut 93 = .ok (.iadd, 1) := by decide +kernel
theorem dX6_cut_94 : decode cX6_cut 94 = .ok (.iconst 0, 1) := by decide +kernel
theorem dX6_cut_95 : decode cX6_cut 95 = .ok (.iload_n 2, 1) := by decide +kernel
theorem dX6_cut_96 : decode cX6_cut 96 = .ok (.invokevirtual 60, 3) := by decide +kernel
theorem dX6_cut_99 : decode cX6_cut 99 = .ok (.iload 5, 2) := by decide +kernel
theorem dX6_cut_101 : decode cX6_cut 101 = .ok (.istore_n 2, 1) := by decide +kernel
theorem dX6_cut_102 : decode cX6_cut 102 = .ok (.goto 73, 3) := by decide +kernel
theorem dX6_cut_105 : decode cX6_cut 105 = .ok (.iload 4, 2) := by decide +kernel
theorem dX6_cut_107 : decode cX6_cut 107 = .ok (.invokestatic 64, 3) := by decide +kernel
theorem dX6_cut_110 : decode cX6_cut 110 = .ok (.ifCond .eq 42, 3) := by decide +kernel
theorem dX6_cut_113 : decode cX6_cut 113 = .ok (.aload_n 0, 1) := by decide +kernel
theorem dX6_cut_114 : decode cX6_cut 114 = .ok (.iload_n 2, 1) := by decide +kernel
theorem dX6_cut_115 : decode cX6_cut 115 = .ok (.iconst 0, 1) := by decide +kernel
theorem dX6_cut_116 : decode cX6_cut 116 = .ok (.invokevirtual 52, 3) := by decide +kernel
theorem dX6_cut_119 : decode cX6_cut 119 = .ok (.istore 5, 2) := by decide +kernel
theorem dX6_cut_121 : decode cX6_cut 121 = .ok (.aload_n 0, 1) := by decide +kernel
theorem dX6_cut_122 : decode cX6_cut 122 = .ok (.iload 5, 2) := by decide +kernel
theorem dX6_cut_124 : decode cX6_cut 124 = .ok (.iload_n 2, 1) := by decide +kernel
theorem dX6_cut_125 : decode cX6_cut 125 = .ok (.isub, 1) := by decide +kernel
theorem dX6_cut_126 : decode cX6_cut 126 = .ok (.iconst 4, 1) := by decide +kernel
theorem dX6_cut_127 : decode cX6_cut 127 = .ok (.if_icmp .le 7, 3) := by decide +kernel
theorem dX6_cut_130 : decode cX6_cut 130 = .ok (.iconst 0, 1) := by decide +kernel
theorem dX6_cut_131 : decode cX6_cut 131 = .ok (.goto 4, 3) := by decide +kernel
theorem dX6_cut_134 : decode cX6_cut 134 = .ok (.iconst 1, 1) := by decide +kernel
theorem dX6_cut_135 : decode cX6_cut 135 = .ok (.aload_n 0, 1) := by decide +kernel
theorem dX6_cut_136 : decode cX6_cut 136 = .ok (.iload_n 2, 1) := by decide +kernel
theorem dX6_cut_137 : decode cX6_cut 137 = .ok (.iload 5, 2) := by decide +kernel
theorem dX6_cut_139 : decode cX6_cut 139 = .ok (.invokevirtual 67, 3) := by decide +kernel
theorem dX6_cut_142 : decode cX6_cut 142 = .ok (.iload_n 2, 1) := by decide +kernel
theorem dX6_cut_143 : decode cX6_cut 143 = .ok (.invokevirtual 60, 3) := by decide +kernel
theorem dX6_cut_146 : decode cX6_cut 146 = .ok (.iload 5, 2) := by decide +kernel
theorem dX6_cut_148 : decode cX6_cut 148 = .ok (.istore_n 2, 1) := by decide +kernel
theorem dX6_cut_149 : decode cX6_cut 149 = .ok (.goto 26, 3) := by decide +kernel
theorem dX6_cut_152 : decode cX6_cut 152 = .ok (.aload_n 0, 1) := by decide +kernel
theorem dX6_cut_153 : decode cX6_cut 153 = .ok (.iload 4, 2) := by decide +kernel
theorem dX6_cut_155 : decode cX6_cut 155 = .ok (.invokestatic 71, 3) := by decide +kernel
theorem dX6_cut_158 : decode cX6_cut 158 = .ok (.ifCond .eq 8, 3) := by decide +kernel
theorem dX6_cut_161 : decode cX6_cut 161 = .ok (.iload 4, 2) := by decide +kernel
theorem dX6_cut_163 : decode cX6_cut 163 = .ok (.goto 4, 3) := by decide +kernel
theorem dX6_cut_166 : decode cX6_cut 166 = .ok (.iconst 0, 1) := by decide +kernel
theorem dX6_cut_167 : decode cX6_cut 167 = .ok (.iconst 0, 1) := by decide +kernel
theorem dX6_cut_168 : decode cX6_cut 168 = .ok (.iload_n 2, 1) := by decide +kernel
theorem dX6_cut_169 : decode cX6_cut 169 = .ok (.invokevirtual 60, 3) := by decide +kernel
theorem dX6_cut_172 : decode cX6_cut 172 = .ok (.iinc 2 1, 3) := by decide +kernel
theorem dX6_cut_175 : decode cX6_cut 175 = .ok (.iinc 3 1, 3) := by decide +kernel
theorem dX6_cut_178 : decode cX6_cut 178 = .ok (.goto (-169), 3) := by decide +kernel
theorem dX6_cut_181 : decode cX6_cut 181 = .ok (.aload_n 0, 1) := by decide +kernel
theorem dX6_cut_182 : decode cX6_cut 182 = .ok (.iconst 2, 1) := by decide +kernel
theorem dX6_cut_183 : decode cX6_cut 183 = .ok (.iconst 0, 1) := by decide +kernel
theorem dX6_cut_184 : decode cX6_cut 184 = .ok (.aload_n 0, 1) := by decide +kernel
theorem dX6_cut_185 : decode cX6_cut 185 = .ok (.getfield 25, 3) := by decide +kernel
theorem dX6_cut_188 : decode cX6_cut 188 = .ok (.invokevirtual 60, 3) := by decide +kernel
theorem dX6_cut_191 : decode cX6_cut 191 = .ok (.aload_n 0, 1) := by decide +kernel
theorem dX6_cut_192 : decode cX6_cut 192 = .ok (.iconst (-1), 1) := by decide +kernel
theorem dX6_cut_193 : decode cX6_cut 193 = .ok (.putfield 29, 3) := by decide +kernel
theorem dX6_cut_196 : decode cX6_cut 196 = .ok (.aload_n 0, 1) := by decide +kernel
theorem dX6_cut_197 : decode cX6_cut 197 = .ok (.invokevirtual 74, 3) := by decide +kernel
theorem dX6_cut_200 : decode cX6_cut 200 = .ok (.return_, 1) := by decide +kernel
theorem dX6_put_0 : decode cX6_put 0 = .ok (.aload_n 0, 1) := by decide +kernel
theorem dX6_put_1 : decode cX6_put 1 = .ok (.getfield 32, 3) := by decide +kernel
theorem dX6_put_4 : decode cX6_put 4 = .ok (.sipush 400, 3) := by decide +kernel
theorem dX6_put_7 : decode cX6_put 7 = .ok (.if_icmp .gt 43, 3) := by decide +kernel
theorem dX6_put_10 : decode cX6_put 10 = .ok (.aload_n 0, 1) := by decide +kernel
theorem dX6_put_11 : decode cX6_put 11 = .ok (.getfield 15, 3) := by decide +kernel
theorem dX6_put_14 : decode cX6_put 14 = .ok (.aload_n 0, 1) := by decide +kernel
theorem dX6_put_15 : decode cX6_put 15 = .ok (.getfield 32, 3) := by decide +kernel
theorem dX6_put_18 : decode cX6_put 18 = .ok (.iload_n 1, 1) := by decide +kernel
theorem dX6_put_19 : decode cX6_put 19 = .ok (.iastore, 1) := by decide +kernel
theorem dX6_put_20 : decode cX6_put 20 = .ok (.aload_n 0, 1) := by decide +kernel
theorem dX6_put_21 : decode cX6_put 21 = .ok (.getfield 19, 3) := by decide +kernel
theorem dX6_put_24 : decode cX6_put 24 = .ok (.aload_n 0, 1) := by decide +kernel
theorem dX6_put_25 : decode cX6_put 25 = .ok (.getfield 32, 3) := by decide +kernel
theorem dX6_put_28 : decode cX6_put 28 = .ok (.iload_n 2, 1) := by decide +kernel
theorem dX6_put_29 : decode cX6_put 29 = .ok (.iastore, 1) := by decide +kernel
theorem dX6_put_30 : decode cX6_put 30 = .ok (.aload_n 0, 1) := by decide +kernel
theorem dX6_put_31 : decode cX6_put 31 = .ok (.getfield 22, 3) := by decide +kernel
theorem dX6_put_34 : decode cX6_put 34 = .ok (.aload_n 0, 1) := by decide +kernel
theorem dX6_put_35 : decode cX6_put 35 = .ok (.getfield 32, 3) := by decide +kernel
theorem dX6_put_38 : decode cX6_put 38 = .ok (.iload_n 3, 1) := by decide +kernel
theorem dX6_put_39 : decode cX6_put 39 = .ok (.iastore, 1) := by decide +kernel
theorem dX6_put_40 : decode cX6_put 40 = .ok (.aload_n 0, 1) := by decide +kernel
theorem dX6_put_41 : decode cX6_put 41 = .ok (.dup, 1) := by decide +kernel
theorem dX6_put_42 : decode cX6_put 42 = .ok (.getfield 32, 3) := by decide +kernel
theorem dX6_put_45 : decode cX6_put 45 = .ok (.iconst 1, 1) := by decide +kernel
theorem dX6_put_46 : decode cX6_put 46 = .ok (.iadd, 1) := by decide +kernel
theorem dX6_put_47 : decode cX6_put 47 = .ok (.putfield 32, 3) := by decide +kernel
theorem dX6_put_50 : decode cX6_put 50 = .ok (.return_, 1) := by decide +kernel
theorem dX6_isLetter_0 : decode cX6_isLetter 0 = .ok (.iload_n 0, 1) := by decide +kernel
theorem dX6_isLetter_1 : decode cX6_isLetter 1 = .ok (.bipush 97, 2) := by decide +kernel
theorem dX6_isLetter_3 : decode cX6_isLetter 3 = .ok (.bipush 122, 2) := by decide +kernel
theorem dX6_isLetter_5 : decode cX6_isLetter 5 = .ok (.invokestatic 77, 3) := by decide +kernel
theorem dX6_isLetter_8 : decode cX6_isLetter 8 = .ok (.ifCond .ne 14, 3) := by decide +kernel
theorem dX6_isLetter_11 : decode cX6_isLetter 11 = .ok (.iload_n 0, 1) := by decide +kernel
theorem dX6_isLetter_12 : decode cX6_isLetter 12 = .ok (.bipush 65, 2) := by decide +kernel
theorem dX6_isLetter_14 : decode cX6_isLetter 14 = .ok (.bipush 90, 2) := by decide +kernel
theorem dX6_isLetter_16 : decode cX6_isLetter 16 = .ok (.invokestatic 77, 3) := by decide +kernel
theorem dX6_isLetter_19 : decode cX6_isLetter 19 = .ok (.ifCond .eq 7, 3) := by decide +kernel
theorem dX6_isLetter_22 : decode cX6_isLetter 22 = .ok (.iconst 1, 1) := by decide +kernel
theorem dX6_isLetter_23 : decode cX6_isLetter 23 = .ok (.goto 4, 3) := by decide +kernel
theorem dX6_isLetter_26 : decode cX6_isLetter 26 = .ok (.iconst 0, 1) := by decide +kernel
theorem dX6_isLetter_27 : decode cX6_isLetter 27 = .ok (.ireturn, 1) := by decide +kernel
theorem dX6_isDigit_0 : decode cX6_isDigit 0 = .ok (.iload_n 0, 1) := by decide +kernel
theorem dX6_isDigit_1 : decode cX6_isDigit 1 = .ok (.bipush 48, 2) := by decide +kernel
theorem dX6_isDigit_3 : decode cX6_isDigit 3 = .ok (.bipush 57, 2) := by decide +kernel
theorem dX6_isDigit_5 : decode cX6_isDigit 5 = .ok (.invokestatic 77, 3) := by decide +kernel
theorem dX6_isDigit_8 : decode cX6_isDigit 8 = .ok (.ireturn, 1) := by decide +kernel
theorem dX6_isSign_0 : decode cX6_isSign 0 = .ok (.iload_n 0, 1) := by decide +kernel
theorem dX6_isSign_1 : decode cX6_isSign 1 = .ok (.bipush 59, 2) := by decide +kernel
theorem dX6_isSign_3 : decode cX6_isSign 3 = .ok (.if_icmp .eq 44, 3) := by decide +kernel
theorem dX6_isSign_6 : decode cX6_isSign 6 = .ok (.iload_n 0, 1) := by decide +kernel
theorem dX6_isSign_7 : decode cX6_isSign 7 = .ok (.bipush 60, 2) := by decide +kernel
theorem dX6_isSign_9 : decode cX6_isSign 9 = .ok (.if_icmp .eq 38, 3) := by decide +kernel
theorem dX6_isSign_12 : decode cX6_isSign 12 = .ok (.iload_n 0, 1) := by decide +kernel
theorem dX6_isSign_13 : decode cX6_isSign 13 = .ok (.bipush 61, 2) := by decide +kernel
theorem dX6_isSign_15 : decode cX6_isSign 15 = .ok (.if_icmp .eq 32, 3) := by decide +kernel
theorem dX6_isSign_18 : decode cX6_isSign 18 = .ok (.iload_n 0, 1) := by decide +kernel
theorem dX6_isSign_19 : decode cX6_isSign 19 = .ok (.bipush 62, 2) := by decide +kernel
theorem dX6_isSign_21 : decode cX6_isSign 21 = .ok (.if_icmp .eq 26, 3) := by decide +kernel
theorem dX6_isSign_24 : decode cX6_isSign 24 = .ok (.iload_n 0, 1) := by decide +kernel
theorem dX6_isSign_25 : decode cX6_isSign 25 = .ok (.bipush 47, 2) := by decide +kernel
theorem dX6_isSign_27 : decode cX6_isSign 27 = .ok (.if_icmp .eq 20, 3) := by decide +kernel
theorem dX6_isSign_30 : decode cX6_isSign 30 = .ok (.iload_n 0, 1) := by decide +kernel
theorem dX6_isSign_31 : decode cX6_isSign 31 = .ok (.bipush 45, 2) := by decide +kernel
theorem dX6_isSign_33 : decode cX6_isSign 33 = .ok (.if_icmp .eq 14, 3) := by decide +kernel
theorem dX6_isSign_36 : decode cX6_isSign 36 = .ok (.iload_n 0, 1) := by decide +kernel
theorem dX6_isSign_37 : decode cX6_isSign 37 = .ok (.bipush 40, 2) := by decide +kernel
theorem dX6_isSign_39 : decode cX6_isSign 39 = .ok (.bipush 43, 2) := by decide +kernel
theorem dX6_isSign_41 : decode cX6_isSign 41 = .ok (.invokestatic 77, 3) := by decide +kernel
theorem dX6_isSign_44 : decode cX6_isSign 44 = .ok (.ifCond .eq 7, 3) := by decide +kernel
theorem dX6_isSign_47 : decode cX6_isSign 47 = .ok (.iconst 1, 1) := by decide +kernel
theorem dX6_isSign_48 : decode cX6_isSign 48 = .ok (.goto 4, 3) := by decide +kernel
theorem dX6_isSign_51 : decode cX6_isSign 51 = .ok (.iconst 0, 1) := by decide +kernel
theorem dX6_isSign_52 : decode cX6_isSign 52 = .ok (.ireturn, 1) := by decide +kernel
theorem dX6_runFrom_0 : decode cX6_runFrom 0 = .ok (.iload_n 1, 1) := by decide +kernel
theorem dX6_runFrom_1 : decode cX6_runFrom 1 = .ok (.istore_n 3, 1) := by decide +kernel
theorem dX6_runFrom_2 : decode cX6_runFrom 2 = .ok (.iconst 0, 1) := by decide +kernel
theorem dX6_runFrom_3 : decode cX6_runFrom 3 = .ok (.istore 4, 2) := by decide +kernel
theorem dX6_runFrom_5 : decode cX6_runFrom 5 = .ok (.iload 4, 2) := by decide +kernel
theorem dX6_runFrom_7 : decode cX6_runFrom 7 = .ok (.sipush 400, 3) := by decide +kernel
theorem dX6_runFrom_10 : decode cX6_runFrom 10 = .ok (.if_icmp .ge 44, 3) := by decide +kernel
theorem dX6_runFrom_13 : decode cX6_runFrom 13 = .ok (.aload_n 0, 1) := by decide +kernel
theorem dX6_runFrom_14 : decode cX6_runFrom 14 = .ok (.iload_n 3, 1) := by decide +kernel
theorem dX6_runFrom_15 : decode cX6_runFrom 15 = .ok (.invokevirtual 44, 3) := by decide +kernel
theorem dX6_runFrom_18 : decode cX6_runFrom 18 = .ok (.istore 5, 2) := by decide +kernel
theorem dX6_runFrom_20 : decode cX6_runFrom 20 = .ok (.iload_n 2, 1) := by decide +kernel
theorem dX6_runFrom_21 : decode cX6_runFrom 21 = .ok (.ifCond .eq 14, 3) := by decide +kernel
theorem dX6_runFrom_24 : decode cX6_runFrom 24 = .ok (.iload 5, 2) := by decide +kernel
theorem dX6_runFrom_26 : decode cX6_runFrom 26 = .ok (.invokestatic 48, 3) := by decide +kernel
theorem dX6_runFrom_29 : decode cX6_runFrom 29 = .ok (.ifCond .ne 16, 3) := by decide +kernel
theorem dX6_runFrom_32 : decode cX6_runFrom 32 = .ok (.goto 11, 3) := by decide +kernel
theorem dX6_runFrom_35 : decode cX6_runFrom 35 = .ok (.iload 5, 2) := by decide +kernel
theorem dX6_runFrom_37 : decode cX6_runFrom 37 = .ok (.invokestatic 64, 3) := by decide +kernel
theorem dX6_runFrom_40 : decode cX6_runFrom 40 = .ok (.ifCond .ne 5, 3) := by decide +kernel
theorem dX6_runFrom_43 : decode cX6_runFrom 43 = .ok (.iload_n 3, 1) := by decide +kernel
theorem dX6_runFrom_44 : decode cX6_runFrom 44 = .ok (.ireturn, 1) := by decide +kernel
theorem dX6_runFrom_45 : decode cX6_runFrom 45 = .ok (.iinc 3 1, 3) := by decide +kernel
theorem dX6_runFrom_48 : decode cX6_runFrom 48 = .ok (.iinc 4 1, 3) := by decide +kernel
theorem dX6_runFrom_51 : decode cX6_runFrom 51 = .ok (.goto (-46), 3) := by decide +kernel
theorem dX6_runFrom_54 : decode cX6_runFrom 54 = .ok (.iload_n 3, 1) := by decide +kernel
theorem dX6_runFrom_55 : decode cX6_runFrom 55 = .ok (.ireturn, 1) := by decide +kernel
theorem dX6_amount_0 : decode cX6_amount 0 = .ok (.iconst 0, 1) := by decide +kernel
theorem dX6_amount_1 : decode cX6_amount 1 = .ok (.istore_n 3, 1) := by decide +kernel
theorem dX6_amount_2 : decode cX6_amount 2 = .ok (.iload_n 1, 1) := by decide +kernel
theorem dX6_amount_3 : decode cX6_amount 3 = .ok (.istore 4, 2) := by decide +kernel
theorem dX6_amount_5 : decode cX6_amount 5 = .ok (.iload 4, 2) := by decide +kernel
theorem dX6_amount_7 : decode cX6_amount 7 = .ok (.iload_n 2, 1) := by decide +kernel
theorem dX6_amount_8 : decode cX6_amount 8 = .ok (.if_icmp .ge 32, 3) := by decide +kernel
theorem dX6_amount_11 : decode cX6_amount 11 = .ok (.iload 4, 2) := by decide +kernel
theorem dX6_amount_13 : decode cX6_amount 13 = .ok (.iload_n 1, 1) := by decide +kernel
theorem dX6_amount_14 : decode cX6_amount 14 = .ok (.iconst 4, 1) := by decide +kernel
theorem dX6_amount_15 : decode cX6_amount 15 = .ok (.iadd, 1) := by decide +kernel
theorem dX6_amount_16 : decode cX6_amount 16 = .ok (.if_icmp .ge 24, 3) := by decide +kernel
theorem dX6_amount_19 : decode cX6_amount 19 = .ok (.iload_n 3, 1) := by decide +kernel
theorem dX6_amount_20 : decode cX6_amount 20 = .ok (.bipush 10, 2) := by decide +kernel
theorem dX6_amount_22 : decode cX6_amount 22 = .ok (.imul, 1) := by decide +kernel
theorem dX6_amount_23 : decode cX6_amount 23 = .ok (.aload_n 0, 1) := by decide +kernel
theorem dX6_amount_24 : decode cX6_amount 24 = .ok (.iload 4, 2) := by decide +kernel
theorem dX6_amount_26 : decode cX6_amount 26 = .ok (.invokevirtual 44, 3) := by decide +kernel
theorem dX6_amount_29 : decode cX6_amount 29 = .ok (.iadd, 1) := by decide +kernel
theorem dX6_amount_30 : decode cX6_amount 30 = .ok (.bipush 48, 2) := by decide +kernel
theorem dX6_amount_32 : decode cX6_amount 32 = .ok (.isub, 1) := by decide +kernel
theorem dX6_amount_33 : decode cX6_amount 33 = .ok (.istore_n 3, 1) := by decide +kernel
theorem dX6_amount_34 : decode cX6_amount 34 = .ok (.iinc 4 1, 3) := by decide +kernel
theorem dX6_amount_37 : decode cX6_amount 37 = .ok (.goto (-32), 3) := by decide +kernel
theorem dX6_amount_40 : decode cX6_amount 40 = .ok (.iload_n 3, 1) := by decide +kernel
theorem dX6_amount_41 : decode cX6_amount 41 = .ok (.ireturn, 1) := by decide +kernel
theorem dX6_numberOf_0 : decode cX6_numberOf 0 = .ok (.iconst 0, 1) := by decide +kernel
theorem dX6_numberOf_1 : decode cX6_numberOf 1 = .ok (.istore 4, 2) := by decide +kernel
theorem dX6_numberOf_3 : decode cX6_numberOf 3 = .ok (.iconst 0, 1) := by decide +kernel
theorem dX6_numberOf_4 : decode cX6_numberOf 4 = .ok (.istore 5, 2) := by decide +kernel
theorem dX6_numberOf_6 : decode cX6_numberOf 6 = .ok (.iconst 0, 1) := by decide +kernel
theorem dX6_numberOf_7 : decode cX6_numberOf 7 = .ok (.istore 6, 2) := by decide +kernel
theorem dX6_numberOf_9 : decode cX6_numberOf 9 = .ok (.iload 6, 2) := by decide +kernel
theorem dX6_numberOf_11 : decode cX6_numberOf 11 = .ok (.aload_n 1, 1) := by decide +kernel
theorem dX6_numberOf_12 : decode cX6_numberOf 12 = .ok (.invokevirtual 81, 3) := by decide +kernel
theorem dX6_numberOf_15 : decode cX6_numberOf 15 = .ok (.if_icmp .gt 65, 3) := by decide +kernel
theorem dX6_numberOf_18 : decode cX6_numberOf 18 = .ok (.iload 6, 2) := by decide +kernel
theorem dX6_numberOf_20 : decode cX6_numberOf 20 = .ok (.aload_n 1, 1) := by decide +kernel
theorem dX6_numberOf_21 : decode cX6_numberOf 21 = .ok (.invokevirtual 81, 3) := by decide +kernel
theorem dX6_numberOf_24 : decode cX6_numberOf 24 = .ok (.if_icmp .eq 14, 3) := by decide +kernel
theorem dX6_numberOf_27 : decode cX6_numberOf 27 = .ok (.aload_n 1, 1) := by decide +kernel
theorem dX6_numberOf_28 : decode cX6_numberOf 28 = .ok (.iload 6, 2) := by decide +kernel
theorem dX6_numberOf_30 : decode cX6_numberOf 30 = .ok (.invokevirtual 86, 3) := by decide +kernel
theorem dX6_numberOf_33 : decode cX6_numberOf 33 = .ok (.bipush 32, 2) := by decide +kernel
theorem dX6_numberOf_35 : decode cX6_numberOf 35 = .ok (.if_icmp .ne 39, 3) := by decide +kernel
theorem dX6_numberOf_38 : decode cX6_numberOf 38 = .ok (.iload 6, 2) := by decide +kernel
theorem dX6_numberOf_40 : decode cX6_numberOf 40 = .ok (.iload 5, 2) := by decide +kernel
theorem dX6_numberOf_42 : decode cX6_numberOf 42 = .ok (.isub, 1) := by decide +kernel
theorem dX6_numberOf_43 : decode cX6_numberOf 43 = .ok (.iload_n 3, 1) := by decide +kernel
theorem dX6_numberOf_44 : decode cX6_numberOf 44 = .ok (.iload_n 2, 1) := by decide +kernel
theorem dX6_numberOf_45 : decode cX6_numberOf 45 = .ok (.isub, 1) := by decide +kernel
theorem dX6_numberOf_46 : decode cX6_numberOf 46 = .ok (.if_icmp .ne 19, 3) := by decide +kernel
theorem dX6_numberOf_49 : decode cX6_numberOf 49 = .ok (.aload_n 0, 1) := by decide +kernel
theorem dX6_numberOf_50 : decode cX6_numberOf 50 = .ok (.aload_n 1, 1) := by decide +kernel
theorem dX6_numberOf_51 : decode cX6_numberOf 51 = .ok (.iload 5, 2) := by decide +kernel
theorem dX6_numberOf_53 : decode cX6_numberOf 53 = .ok (.iload 6, 2) := by decide +kernel
theorem dX6_numberOf_55 : decode cX6_numberOf 55 = .ok (.iload_n 2, 1) := by decide +kernel
theorem dX6_numberOf_56 : decode cX6_numberOf 56 = .ok (.invokevirtual 90, 3) := by decide +kernel
theorem dX6_numberOf_59 : decode cX6_numberOf 59 = .ok (.ifCond .eq 6, 3) := by decide +kernel
theorem dX6_numberOf_62 : decode cX6_numberOf 62 = .ok (.iload 4, 2) := by decide +kernel
theorem dX6_numberOf_64 : decode cX6_numberOf 64 = .ok (.ireturn, 1) := by decide +kernel
theorem dX6_numberOf_65 : decode cX6_numberOf 65 = .ok (.iinc 4 1, 3) := by decide +kernel
theorem dX6_numberOf_68 : decode cX6_numberOf 68 = .ok (.iload 6, 2) := by decide +kernel
theorem dX6_numberOf_70 : decode cX6_numberOf 70 = .ok (.iconst 1, 1) := by decide +kernel
theorem dX6_numberOf_71 : decode cX6_numberOf 71 = .ok (.iadd, 1) := by decide +kernel
theorem dX6_numberOf_72 : decode cX6_numberOf 72 = .ok (.istore 5, 2) := by decide +kernel
theorem dX6_numberOf_74 : decode cX6_numberOf 74 = .ok (.iinc 6 1, 3) := by decide +kernel
theorem dX6_numberOf_77 : decode cX6_numberOf 77 = .ok (.goto (-68), 3) := by decide +kernel
theorem dX6_numberOf_80 : decode cX6_numberOf 80 = .ok (.iconst (-1), 1) := by decide +kernel
theorem dX6_numberOf_81 : decode cX6_numberOf 81 = .ok (.ireturn, 1) := by decide +kernel
theorem dX6_isSame_0 : decode cX6_isSame 0 = .ok (.iload_n 2, 1) := by decide +kernel
theorem dX6_isSame_1 : decode cX6_isSame 1 = .ok (.istore 5, 2) := by decide +kernel
theorem dX6_isSame_3 : decode cX6_isSame 3 = .ok (.iload 5, 2) := by decide +kernel
theorem dX6_isSame_5 : decode cX6_isSame 5 = .ok (.iload_n 3, 1) := by decide +kernel
theorem dX6_isSame_6 : decode cX6_isSame 6 = .ok (.if_icmp .ge 40, 3) := by decide +kernel
theorem dX6_isSame_9 : decode cX6_isSame 9 = .ok (.iload 5, 2) := by decide +kernel
theorem dX6_isSame_11 : decode cX6_isSame 11 = .ok (.aload_n 1, 1) := by decide +kernel
theorem dX6_isSame_12 : decode cX6_isSame 12 = .ok (.invokevirtual 81, 3) := by decide +kernel
theorem dX6_isSame_15 : decode cX6_isSame 15 = .ok (.if_icmp .ge 31, 3) := by decide +kernel
theorem dX6_isSame_18 : decode cX6_isSame 18 = .ok (.aload_n 1, 1) := by decide +kernel
theorem dX6_isSame_19 : decode cX6_isSame 19 = .ok (.iload 5, 2) := by decide +kernel
theorem dX6_isSame_21 : decode cX6_isSame 21 = .ok (.invokevirtual 86, 3) := by decide +kernel
theorem dX6_isSame_24 : decode cX6_isSame 24 = .ok (.aload_n 0, 1) := by decide +kernel
theorem dX6_isSame_25 : decode cX6_isSame 25 = .ok (.iload 4, 2) := by decide +kernel
theorem dX6_isSame_27 : decode cX6_isSame 27 = .ok (.iload 5, 2) := by decide +kernel
theorem dX6_isSame_29 : decode cX6_isSame 29 = .ok (.iadd, 1) := by decide +kernel
theorem dX6_isSame_30 : decode cX6_isSame 30 = .ok (.iload_n 2, 1) := by decide +kernel
theorem dX6_isSame_31 : decode cX6_isSame 31 = .ok (.isub, 1) := by decide +kernel
theorem dX6_isSame_32 : decode cX6_isSame 32 = .ok (.invokevirtual 44, 3) := by decide +kernel
theorem dX6_isSame_35 : decode cX6_isSame 35 = .ok (.if_icmp .eq 5, 3) := by decide +kernel
theorem dX6_isSame_38 : decode cX6_isSame 38 = .ok (.iconst 0, 1) := by decide +kernel
theorem dX6_isSame_39 : decode cX6_isSame 39 = .ok (.ireturn, 1) := by decide +kernel
theorem dX6_isSame_40 : decode cX6_isSame 40 = .ok (.iinc 5 1, 3) := by decide +kernel
theorem dX6_isSame_43 : decode cX6_isSame 43 = .ok (.goto (-40), 3) := by decide +kernel
theorem dX6_isSame_46 : decode cX6_isSame 46 = .ok (.iconst 1, 1) := by decide +kernel
theorem dX6_isSame_47 : decode cX6_isSame 47 = .ok (.ireturn, 1) := by decide +kernel
theorem dX7_init_0 : decode cX7_init 0 = .ok (.aload_n 0, 1) := by decide +kernel
theorem dX7_init_1 : decode cX7_init 1 = .ok (.invokespecial 3, 3) := by decide +kernel
theorem dX7_init_4 : decode cX7_init 4 = .ok (.aload_n 0, 1) := by decide +kernel
theorem dX7_init_5 : decode cX7_init 5 = .ok (.new 9, 3) := by decide +kernel
theorem dX7_init_8 : decode cX7_init 8 = .ok (.dup, 1) := by decide +kernel
theorem dX7_init_9 : decode cX7_init 9 = .ok (.invokespecial 11, 3) := by decide +kernel
theorem dX7_init_12 : decode cX7_init 12 = .ok (.putfield 12, 3) := by decide +kernel
theorem dX7_init_15 : decode cX7_init 15 = .ok (.aload_n 0, 1) := by decide +kernel
theorem dX7_init_16 : decode cX7_init 16 = .ok (.bipush 91, 2) := by decide +kernel
theorem dX7_init_18 : decode cX7_init 18 = .ok (.newarray .int, 2) := by decide +kernel
theorem dX7_init_20 : decode cX7_init 20 = .ok (.putfield 18, 3) := by decide +kernel
theorem dX7_init_23 : decode cX7_init 23 = .ok (.return_, 1) := by decide +kernel
theorem dX7_far_0 : decode cX7_far 0 = .ok (.aload_n 0, 1) := by decide +kernel
theorem dX7_far_1 : decode cX7_far 1 = .ok (.getfield 12, 3) := by decide +kernel
theorem dX7_far_4 : decode cX7_far 4 = .ok (.aload_n 1, 1) := by decide +kernel
theorem dX7_far_5 : decode cX7_far 5 = .ok (.iload_n 2, 1) := by decide +kernel
theorem dX7_far_6 : decode cX7_far 6 = .ok (.iload_n 3, 1) := by decide +kernel
theorem dX7_far_7 : decode cX7_far 7 = .ok (.iconst 0, 1) := by decide +kernel
theorem dX7_far_8 : decode cX7_far 8 = .ok (.iload 4, 2) := by decide +kernel
theorem dX7_far_10 : decode cX7_far 10 = .ok (.iload 5, 2) := by decide +kernel
theorem dX7_far_12 : decode cX7_far 12 = .ok (.aload_n 1, 1) := by decide +kernel
theorem dX7_far_13 : decode cX7_far 13 = .ok (.getfield 22, 3) := by decide +kernel
theorem dX7_far_16 : decode cX7_far 16 = .ok (.iconst 1, 1) := by decide +kernel
theorem dX7_far_17 : decode cX7_far 17 = .ok (.iaload, 1) := by decide +kernel
theorem dX7_far_18 : decode cX7_far 18 = .ok (.invokevirtual 27, 3) := by decide +kernel
theorem dX7_far_21 : decode cX7_far 21 = .ok (.aload_n 0, 1) := by decide +kernel
theorem dX7_far_22 : decode cX7_far 22 = .ok (.getfield 12, 3) := by decide +kernel
theorem dX7_far_25 : decode cX7_far 25 = .ok (.aload_n 1, 1) := by decide +kernel
theorem dX7_far_26 : decode cX7_far 26 = .ok (.getfield 31, 3) := by decide +kernel
theorem dX7_far_29 : decode cX7_far 29 = .ok (.sipush 400, 3) := by decide +kernel
theorem dX7_far_32 : decode cX7_far 32 = .ok (.invokevirtual 34, 3) := by decide +kernel
theorem dX7_far_35 : decode cX7_far 35 = .ok (.aload_n 0, 1) := by decide +kernel
theorem dX7_far_36 : decode cX7_far 36 = .ok (.getfield 12, 3) := by decide +kernel
theorem dX7_far_39 : decode cX7_far 39 = .ok (.getfield 38, 3) := by decide +kernel
theorem dX7_far_42 : decode cX7_far 42 = .ok (.ireturn, 1) := by decide +kernel
theorem dX7_goodFar_0 : decode cX7_goodFar 0 = .ok (.aload_n 0, 1) := by decide +kernel
theorem dX7_goodFar_1 : decode cX7_goodFar 1 = .ok (.getfield 12, 3) := by decide +kernel
theorem dX7_goodFar_4 : decode cX7_goodFar 4 = .ok (.aload_n 1, 1) := by decide +kernel
theorem dX7_goodFar_5 : decode cX7_goodFar 5 = .ok (.iload_n 2, 1) := by decide +kernel
theorem dX7_goodFar_6 : decode cX7_goodFar 6 = .ok (.iload_n 3, 1) := by decide +kernel
theorem dX7_goodFar_7 : decode cX7_goodFar 7 = .ok (.iconst 0, 1) := by decide +kernel
theorem dX7_goodFar_8 : decode cX7_goodFar 8 = .ok (.iload 4, 2) := by decide +kernel
theorem dX7_goodFar_10 : decode cX7_goodFar 10 = .ok (.iload 5, 2) := by decide +kernel
theorem dX7_goodFar_12 : decode cX7_goodFar 12 = .ok (.aload_n 1, 1) := by decide +kernel
theorem dX7_goodFar_13 : decode cX7_goodFar 13 = .ok (.getfield 22, 3) := by decide +kernel
theorem dX7_goodFar_16 : decode cX7_goodFar 16 = .ok (.iconst 1, 1) := by decide +kernel
theorem dX7_goodFar_17 : decode cX7_goodFar 17 = .ok (.iaload, 1) := by decide +kernel
theorem dX7_goodFar_18 : decode cX7_goodFar 18 = .ok (.invokevirtual 27, 3) := by decide +kernel
theorem dX7_goodFar_21 : decode cX7_goodFar 21 = .ok (.aload_n 0, 1) := by decide +kernel
theorem dX7_goodFar_22 : decode cX7_goodFar 22 = .ok (.getfield 12, 3) := by decide +kernel
theorem dX7_goodFar_25 : decode cX7_goodFar 25 = .ok (.aload_n 1, 1) := by decide +kernel
theorem dX7_goodFar_26 : decode cX7_goodFar 26 = .ok (.getfield 31, 3) := by decide +kernel
theorem dX7_goodFar_29 : decode cX7_goodFar 29 = .ok (.sipush 400, 3) := by decide +kernel
theorem dX7_goodFar_32 : decode cX7_goodFar 32 = .ok (.invokevirtual 34, 3) := by decide +kernel
theorem dX7_goodFar_35 : decode cX7_goodFar 35 = .ok (.aload_n 0, 1) := by decide +kernel
theorem dX7_goodFar_36 : decode cX7_goodFar 36 = .ok (.getfield 12, 3) := by decide +kernel
theorem dX7_goodFar_39 : decode cX7_goodFar 39 = .ok (.aload_n 1, 1) := by decide +kernel
theorem dX7_goodFar_40 : decode cX7_goodFar 40 = .ok (.getfield 22, 3) := by decide +kernel
theorem dX7_goodFar_43 : decode cX7_goodFar 43 = .ok (.iconst 4, 1) := by decide +kernel
theorem dX7_goodFar_44 : decode cX7_goodFar 44 = .ok (.iaload, 1) := by decide +kernel
theorem dX7_goodFar_45 : decode cX7_goodFar 45 = .ok (.invokevirtual 42, 3) := by decide +kernel
theorem dX7_goodFar_48 : decode cX7_goodFar 48 = .ok (.ifCond .ne 13, 3) := by decide +kernel
theorem dX7_goodFar_51 : decode cX7_goodFar 51 = .ok (.aload_n 0, 1) := by decide +kernel
theorem dX7_goodFar_52 : decode cX7_goodFar 52 = .ok (.getfield 12, 3) := by decide +kernel
theorem dX7_goodFar_55 : decode cX7_goodFar 55 = .ok (.getfield 38, 3) := by decide +kernel
theorem dX7_goodFar_58 : decode cX7_goodFar 58 = .ok (.goto 4, 3) := by decide +kernel
theorem dX7_goodFar_61 : decode cX7_goodFar 61 = .ok (.iconst (-1), 1) := by decide +kernel
theorem dX7_goodFar_62 : decode cX7_goodFar 62 = .ok (.ireturn, 1) := by decide +kernel
theorem dX7_findAngle_0 : decode cX7_findAngle 0 = .ok (.aload_n 0, 1) := by decide +kernel
theorem dX7_findAngle_1 : decode cX7_findAngle 1 = .ok (.iconst (-1), 1) := by decide +kernel
theorem dX7_findAngle_2 : decode cX7_findAngle 2 = .ok (.putfield 46, 3) := by decide +kernel
theorem dX7_findAngle_5 : decode cX7_findAngle 5 = .ok (.aload_n 0, 1) := by decide +kernel
theorem dX7_findAngle_6 : decode cX7_findAngle 6 = .ok (.iconst (-1), 1) := by decide +kernel
theorem dX7_findAngle_7 : decode cX7_findAngle 7 = .ok (.putfield 49, 3) := by decide +kernel
theorem dX7_findAngle_10 : decode cX7_findAngle 10 = .ok (.iconst 0, 1) := by decide +kernel
theorem dX7_findAngle_11 : decode cX7_findAngle 11 = .ok (.istore 5, 2) := by decide +kernel
theorem dX7_findAngle_13 : decode cX7_findAngle 13 = .ok (.iload 5, 2) := by decide +kernel
theorem dX7_findAngle_15 : decode cX7_findAngle 15 = .ok (.bipush 60, 2) := by decide +kernel
theorem dX7_findAngle_17 : decode cX7_findAngle 17 = .ok (.if_icmp .gt 26, 3) := by decide +kernel
theorem dX7_findAngle_20 : decode cX7_findAngle 20 = .ok (.aload_n 0, 1) := by decide +kernel
theorem dX7_findAngle_21 : decode cX7_findAngle 21 = .ok (.iload 5, 2) := by decide +kernel
theorem dX7_findAngle_23 : decode cX7_findAngle 23 = .ok (.aload_n 0, 1) := by decide +kernel
theorem dX7_findAngle_24 : decode cX7_findAngle 24 = .ok (.aload_n 1, 1) := by decide +kernel
theorem dX7_findAngle_25 : decode cX7_findAngle 25 = .ok (.iload_n 2, 1) := by decide +kernel
theorem dX7_findAngle_26 : decode cX7_findAngle 26 = .ok (.iload 5, 2) := by decide +kernel
theorem dX7_findAngle_28 : decode cX7_findAngle 28 = .ok (.iload_n 3, 1) := by decide +kernel
theorem dX7_findAngle_29 : decode cX7_findAngle 29 = .ok (.iload 4, 2) := by decide +kernel
theorem dX7_findAngle_31 : decode cX7_findAngle 31 = .ok (.invokevirtual 52, 3) := by decide +kernel
theorem dX7_findAngle_34 : decode cX7_findAngle 34 = .ok (.invokevirtual 56, 3) := by decide +kernel
theorem dX7_findAngle_37 : decode cX7_findAngle 37 = .ok (.iinc 5 1, 3) := by decide +kernel
theorem dX7_findAngle_40 : decode cX7_findAngle 40 = .ok (.goto (-27), 3) := by decide +kernel
theorem dX7_findAngle_43 : decode cX7_findAngle 43 = .ok (.return_, 1) := by decide +kernel
theorem dX7_findSafe_0 : decode cX7_findSafe 0 = .ok (.aload_n 1, 1) := by decide +kernel
theorem dX7_findSafe_1 : decode cX7_findSafe 1 = .ok (.getfield 22, 3) := by decide +kernel
theorem dX7_findSafe_4 : decode cX7_findSafe 4 = .ok (.iconst 3, 1) := by decide +kernel
theorem dX7_findSafe_5 : decode cX7_findSafe 5 = .ok (.iaload, 1) := by decide +kernel
theorem dX7_findSafe_6 : decode cX7_findSafe 6 = .ok (.istore 5, 2) := by decide +kernel
theorem dX7_findSafe_8 : decode cX7_findSafe 8 = .ok (.iconst 0, 1) := by decide +kernel
theorem dX7_findSafe_9 : decode cX7_findSafe 9 = .ok (.istore 6, 2) := by decide +kernel
theorem dX7_findSafe_11 : decode cX7_findSafe 11 = .ok (.iload 6, 2) := by decide +kernel
theorem dX7_findSafe_13 : decode cX7_findSafe 13 = .ok (.bipush 90, 2) := by decide +kernel
theorem dX7_findSafe_15 : decode cX7_findSafe 15 = .ok (.if_icmp .gt 37, 3) := by decide +kernel
theorem dX7_findSafe_18 : decode cX7_findSafe 18 = .ok (.iload 6, 2) := by decide +kernel
theorem dX7_findSafe_20 : decode cX7_findSafe 20 = .ok (.bipush 60, 2) := by decide +kernel
theorem dX7_findSafe_22 : decode cX7_findSafe 22 = .ok (.iload 5, 2) := by decide +kernel
theorem dX7_findSafe_24 : decode cX7_findSafe 24 = .ok (.iadd, 1) := by decide +kernel
theorem dX7_findSafe_25 : decode cX7_findSafe 25 = .ok (.if_icmp .gt 27, 3) := by decide +kernel
theorem dX7_findSafe_28 : decode cX7_findSafe 28 = .ok (.aload_n 0, 1) := by decide +kernel
theorem dX7_findSafe_29 : decode cX7_findSafe 29 = .ok (.getfield 18, 3) := by decide +kernel
theorem dX7_findSafe_32 : decode cX7_findSafe 32 = .ok (.iload 6, 2) := by decide +kernel
theorem dX7_findSafe_34 : decode cX7_findSafe 34 = .ok (.aload_n 0, 1) := by decide +kernel
theorem dX7_findSafe_35 : decode cX7_findSafe 35 = .ok (.aload_n 1, 1) := by decide +kernel
theorem dX7_findSafe_36 : decode cX7_findSafe 36 = .ok (.iload_n 2, 1) := by decide +kernel
theorem dX7_findSafe_37 : decode cX7_findSafe 37 = .ok (.iload 6, 2) := by decide +kernel
theorem dX7_findSafe_39 : decode cX7_findSafe 39 = .ok (.iload_n 3, 1) := by decide +kernel
theorem dX7_findSafe_40 : decode cX7_findSafe 40 = .ok (.iload 4, 2) := by decide +kernel
theorem dX7_findSafe_42 : decode cX7_findSafe 42 = .ok (.invokevirtual 52, 3) := by decide +kernel
theorem dX7_findSafe_45 : decode cX7_findSafe 45 = .ok (.iastore, 1) := by decide +kernel
theorem dX7_findSafe_46 : decode cX7_findSafe 46 = .ok (.iinc 6 1, 3) := by decide +kernel
theorem dX7_findSafe_49 : decode cX7_findSafe 49 = .ok (.goto (-38), 3) := by decide +kernel
theorem dX7_findSafe_52 : decode cX7_findSafe 52 = .ok (.aload_n 0, 1) := by decide +kernel
theorem dX7_findSafe_53 : decode cX7_findSafe 53 = .ok (.iconst (-1), 1) := by decide +kernel
theorem dX7_findSafe_54 : decode cX7_findSafe 54 = .ok (.putfield 46, 3) := by decide +kernel
theorem dX7_findSafe_57 : decode cX7_findSafe 57 = .ok (.aload_n 0, 1) := by decide +kernel
theorem dX7_findSafe_58 : decode cX7_findSafe 58 = .ok (.iconst (-1), 1) := by decide +kernel
theorem dX7_findSafe_59 : decode cX7_findSafe 59 = .ok (.putfield 49, 3) := by decide +kernel
theorem dX7_findSafe_62 : decode cX7_findSafe 62 = .ok (.iconst 0, 1) := by decide +kernel
theorem dX7_findSafe_63 : decode cX7_findSafe 63 = .ok (.istore 6, 2) := by decide +kernel
theorem dX7_findSafe_65 : decode cX7_findSafe 65 = .ok (.iload 6, 2) := by decide +kernel
theorem dX7_findSafe_67 : decode cX7_findSafe 67 = .ok (.bipush 60, 2) := by decide +kernel
theorem dX7_findSafe_69 : decode cX7_findSafe 69 = .ok (.if_icmp .gt 23, 3) := by decide +kernel
theorem dX7_findSafe_72 : decode cX7_findSafe 72 = .ok (.aload_n 0, 1) := by decide +kernel
theorem dX7_findSafe_73 : decode cX7_findSafe 73 = .ok (.iload 6, 2) := by decide +kernel
theorem dX7_findSafe_75 : decode cX7_findSafe 75 = .ok (.aload_n 0, 1) := by decide +kernel
theorem dX7_findSafe_76 : decode cX7_findSafe 76 = .ok (.iload 6, 2) := by decide +kernel
theorem dX7_findSafe_78 : decode cX7_findSafe 78 = .ok (.iload 5, 2) := by decide +kernel
theorem dX7_findSafe_80 : decode cX7_findSafe 80 = .ok (.invokevirtual 60, 3) := by decide +kernel
theorem dX7_findSafe_83 : decode cX7_findSafe 83 = .ok (.invokevirtual 56, 3) := by decide +kernel
theorem dX7_findSafe_86 : decode cX7_findSafe 86 = .ok (.iinc 6 1, 3) := by decide +kernel
theorem dX7_findSafe_89 : decode cX7_findSafe 89 = .ok (.goto (-24), 3) := by decide +kernel
theorem dX7_findSafe_92 : decode cX7_findSafe 92 = .ok (.return_, 1) := by decide +kernel
theorem dX7_leastAround_0 : decode cX7_leastAround 0 = .ok (.aload_n 0, 1) := by decide +kernel
theorem dX7_leastAround_1 : decode cX7_leastAround 1 = .ok (.getfield 18, 3) := by decide +kernel
theorem dX7_leastAround_4 : decode cX7_leastAround 4 = .ok (.iload_n 1, 1) := by decide +kernel
theorem dX7_leastAround_5 : decode cX7_leastAround 5 = .ok (.iconst 0, 1) := by decide +kernel
theorem dX7_leastAround_6 : decode cX7_leastAround 6 = .ok (.bipush 90, 2) := by decide +kernel
theorem dX7_leastAround_8 : decode cX7_leastAround 8 = .ok (.invokestatic 64, 3) := by decide +kernel
theorem dX7_leastAround_11 : decode cX7_leastAround 11 = .ok (.iaload, 1) := by decide +kernel
theorem dX7_leastAround_12 : decode cX7_leastAround 12 = .ok (.istore_n 3, 1) := by decide +kernel
theorem dX7_leastAround_13 : decode cX7_leastAround 13 = .ok (.iload_n 2, 1) := by decide +kernel
theorem dX7_leastAround_14 : decode cX7_leastAround 14 = .ok (.ineg, 1) := by decide +kernel
theorem dX7_leastAround_15 : decode cX7_leastAround 15 = .ok (.istore 4, 2) := by decide +kernel
theorem dX7_leastAround_17 : decode cX7_leastAround 17 = .ok (.iload 4, 2) := by decide +kernel
theorem dX7_leastAround_19 : decode cX7_leastAround 19 = .ok (.iload_n 2, 1) := by decide +kernel
theorem dX7_leastAround_20 : decode cX7_leastAround 20 = .ok (.if_icmp .gt 29, 3) := by decide +kernel
theorem dX7_leastAround_23 : decode cX7_leastAround 23 = .ok (.iload_n 3, 1) := by decide +kernel
theorem dX7_leastAround_24 : decode cX7_leastAround 24 = .ok (.aload_n 0, 1) := by decide +kernel
theorem dX7_leastAround_25 : decode cX7_leastAround 25 = .ok (.getfield 18, 3) := by decide +kernel
theorem dX7_leastAround_28 : decode cX7_leastAround 28 = .ok (.iload_n 1, 1) := by decide +kernel
theorem dX7_leastAround_29 : decode cX7_leastAround 29 = .ok (.iload 4, 2) := by decide +kernel
theorem dX7_leastAround_31 : decode cX7_leastAround 31 = .ok (.iadd, 1) := by decide +kernel
theorem dX7_leastAround_32 : decode cX7_leastAround 32 = .ok (.iconst 0, 1) := by decide +kernel
theorem dX7_leastAround_33 : decode cX7_leastAround 33 = .ok (.bipush 90, 2) := by decide +kernel
theorem dX7_leastAround_35 : decode cX7_leastAround 35 = .ok (.invokestatic 64, 3) := by decide +kernel
theorem dX7_leastAround_38 : decode cX7_leastAround 38 = .ok (.iaload, 1) := by decide +kernel
theorem dX7_leastAround_39 : decode cX7_leastAround 39 = .ok (.invokestatic 68, 3) := by decide +kernel
theorem dX7_leastAround_42 : decode cX7_leastAround 42 = .ok (.istore_n 3, 1) := by decide +kernel
theorem dX7_leastAround_43 : decode cX7_leastAround 43 = .ok (.iinc 4 1, 3) := by decide +kernel
theorem dX7_leastAround_46 : decode cX7_leastAround 46 = .ok (.goto (-29), 3) := by decide +kernel
theorem dX7_leastAround_49 : decode cX7_leastAround 49 = .ok (.iload_n 3, 1) := by decide +kernel
theorem dX7_leastAround_50 : decode cX7_leastAround 50 = .ok (.ireturn, 1) := by decide +kernel
theorem dX7_found_0 : decode cX7_found 0 = .ok (.iload_n 2, 1) := by decide +kernel
theorem dX7_found_1 : decode cX7_found 1 = .ok (.aload_n 0, 1) := by decide +kernel
theorem dX7_found_2 : decode cX7_found 2 = .ok (.getfield 49, 3) := by decide +kernel
theorem dX7_found_5 : decode cX7_found 5 = .ok (.if_icmp .le 13, 3) := by decide +kernel
theorem dX7_found_8 : decode cX7_found 8 = .ok (.aload_n 0, 1) := by decide +kernel
theorem dX7_found_9 : decode cX7_found 9 = .ok (.iload_n 2, 1) := by decide +kernel
theorem dX7_found_10 : decode cX7_found 10 = .ok (.putfield 49, 3) := by decide +kernel
theorem dX7_found_13 : decode cX7_found 13 = .ok (.aload_n 0, 1) := by decide +kernel
theorem dX7_found_14 : decode cX7_found 14 = .ok (.iload_n 1, 1) := by decide +kernel
theorem dX7_found_15 : decode cX7_found 15 = .ok (.putfield 46, 3) := by decide +kernel
theorem dX7_found_18 : decode cX7_found 18 = .ok (.return_, 1) := by decide +kernel
theorem dX7_angleFor_0 : decode cX7_angleFor 0 = .ok (.iconst 0, 1) := by decide +kernel
theorem dX7_angleFor_1 : decode cX7_angleFor 1 = .ok (.istore 6, 2) := by decide +kernel
theorem dX7_angleFor_3 : decode cX7_angleFor 3 = .ok (.iload 6, 2) := by decide +kernel
theorem dX7_angleFor_5 : decode cX7_angleFor 5 = .ok (.bipush 60, 2) := by decide +kernel
theorem dX7_angleFor_7 : decode cX7_angleFor 7 = .ok (.if_icmp .gt 38, 3) := by decide +kernel
theorem dX7_angleFor_10 : decode cX7_angleFor 10 = .ok (.aload_n 0, 1) := by decide +kernel
theorem dX7_angleFor_11 : decode cX7_angleFor 11 = .ok (.aload_n 1, 1) := by decide +kernel
theorem dX7_angleFor_12 : decode cX7_angleFor 12 = .ok (.iload_n 2, 1) := by decide +kernel
theorem dX7_angleFor_13 : decode cX7_angleFor 13 = .ok (.iload 6, 2) := by decide +kernel
theorem dX7_angleFor_15 : decode cX7_angleFor 15 = .ok (.iload_n 3, 1) := by decide +kernel
theorem dX7_angleFor_16 : decode cX7_angleFor 16 = .ok (.iload 4, 2) := by decide +kernel
theorem dX7_angleFor_18 : decode cX7_angleFor 18 = .ok (.invokevirtual 52, 3) := by decide +kernel
theorem dX7_angleFor_21 : decode cX7_angleFor 21 = .ok (.istore 7, 2) := by decide +kernel
theorem dX7_angleFor_23 : decode cX7_angleFor 23 = .ok (.iload 7, 2) := by decide +kernel
theorem dX7_angleFor_25 : decode cX7_angleFor 25 = .ok (.iconst (-1), 1) := by decide +kernel
theorem dX7_angleFor_26 : decode cX7_angleFor 26 = .ok (.if_icmp .eq 13, 3) := by decide +kernel
theorem dX7_angleFor_29 : decode cX7_angleFor 29 = .ok (.iload 7, 2) := by decide +kernel
theorem dX7_angleFor_31 : decode cX7_angleFor 31 = .ok (.iload 5, 2) := by decide +kernel
theorem dX7_angleFor_33 : decode cX7_angleFor 33 = .ok (.if_icmp .lt 6, 3) := by decide +kernel
theorem dX7_angleFor_36 : decode cX7_angleFor 36 = .ok (.iload 6, 2) := by decide +kernel
theorem dX7_angleFor_38 : decode cX7_angleFor 38 = .ok (.ireturn, 1) := by decide +kernel
theorem dX7_angleFor_39 : decode cX7_angleFor 39 = .ok (.iinc 6 1, 3) := by decide +kernel
theorem dX7_angleFor_42 : decode cX7_angleFor 42 = .ok (.goto (-39), 3) := by decide +kernel
theorem dX7_angleFor_45 : decode cX7_angleFor 45 = .ok (.iconst (-1), 1) := by decide +kernel
theorem dX7_angleFor_46 : decode cX7_angleFor 46 = .ok (.ireturn, 1) := by decide +kernel
theorem dX8_init_0 : decode cX8_init 0 = .ok (.aload_n 0, 1) := by decide +kernel
theorem dX8_init_1 : decode cX8_init 1 = .ok (.invokespecial 3, 3) := by decide +kernel
theorem dX8_init_4 : decode cX8_init 4 = .ok (.aload_n 0, 1) := by decide +kernel
theorem dX8_init_5 : decode cX8_init 5 = .ok (.bipush 60, 2) := by decide +kernel
theorem dX8_init_7 : decode cX8_init 7 = .ok (.newarray .int, 2) := by decide +kernel
theorem dX8_init_9 : decode cX8_init 9 = .ok (.putfield 11, 3) := by decide +kernel
theorem dX8_init_12 : decode cX8_init 12 = .ok (.return_, 1) := by decide +kernel
theorem dX8_begin_0 : decode cX8_begin 0 = .ok (.aload_n 0, 1) := by decide +kernel
theorem dX8_begin_1 : decode cX8_begin 1 = .ok (.iload_n 1, 1) := by decide +kernel
theorem dX8_begin_2 : decode cX8_begin 2 = .ok (.putfield 15, 3) := by decide +kernel
theorem dX8_begin_5 : decode cX8_begin 5 = .ok (.aload_n 0, 1) := by decide +kernel
theorem dX8_begin_6 : decode cX8_begin 6 = .ok (.iconst 0, 1) := by decide +kernel
theorem dX8_begin_7 : decode cX8_begin 7 = .ok (.putfield 19, 3) := by decide +kernel
theorem dX8_begin_10 : decode cX8_begin 10 = .ok (.aload_n 0, 1) := by decide +kernel
theorem dX8_begin_11 : decode cX8_begin 11 = .ok (.iconst 0, 1) := by decide +kernel
theorem dX8_begin_12 : decode cX8_begin 12 = .ok (.putfield 22, 3) := by decide +kernel
theorem dX8_begin_15 : decode cX8_begin 15 = .ok (.aload_n 0, 1) := by decide +kernel
theorem dX8_begin_16 : decode cX8_begin 16 = .ok (.invokevirtual 25, 3) := by decide +kernel
theorem dX8_begin_19 : decode cX8_begin 19 = .ok (.return_, 1) := by decide +kernel
theorem dX8_beginMeet_0 : decode cX8_beginMeet 0 = .ok (.aload_n 0, 1) := by decide +kernel
theorem dX8_beginMeet_1 : decode cX8_beginMeet 1 = .ok (.iconst 0, 1) := by decide +kernel
theorem dX8_beginMeet_2 : decode cX8_beginMeet 2 = .ok (.putfield 28, 3) := by decide +kernel
theorem dX8_beginMeet_5 : decode cX8_beginMeet 5 = .ok (.aload_n 0, 1) := by decide +kernel
theorem dX8_beginMeet_6 : decode cX8_beginMeet 6 = .ok (.iconst 0, 1) := by decide +kernel
theorem dX8_beginMeet_7 : decode cX8_beginMeet 7 = .ok (.putfield 31, 3) := by decide +kernel
theorem dX8_beginMeet_10 : decode cX8_beginMeet 10 = .ok (.aload_n 0, 1) := by decide +kernel
theorem dX8_beginMeet_11 : decode cX8_beginMeet 11 = .ok (.iconst 0, 1) := by decide +kernel
theorem dX8_beginMeet_12 : decode cX8_beginMeet 12 = .ok (.putfield 34, 3) := by decide +kernel
theorem dX8_beginMeet_15 : decode cX8_beginMeet 15 = .ok (.return_, 1) := by decide +kernel
theorem dX8_copy_0 : decode cX8_copy 0 = .ok (.aload_n 0, 1) := by decide +kernel
theorem dX8_copy_1 : decode cX8_copy 1 = .ok (.aload_n 1, 1) := by decide +kernel
theorem dX8_copy_2 : decode cX8_copy 2 = .ok (.getfield 15, 3) := by decide +kernel
theorem dX8_copy_5 : decode cX8_copy 5 = .ok (.putfield 15, 3) := by decide +kernel
theorem dX8_copy_8 : decode cX8_copy 8 = .ok (.aload_n 0, 1) := by decide +kernel
theorem dX8_copy_9 : decode cX8_copy 9 = .ok (.aload_n 1, 1) := by decide +kernel
theorem dX8_copy_10 : decode cX8_copy 10 = .ok (.getfield 19, 3) := by decide +kernel
theorem dX8_copy_13 : decode cX8_copy 13 = .ok (.putfield 19, 3) := by decide +kernel
theorem dX8_copy_16 : decode cX8_copy 16 = .ok (.aload_n 0, 1) := by decide +kernel
theorem dX8_copy_17 : decode cX8_copy 17 = .ok (.aload_n 1, 1) := by decide +kernel
theorem dX8_copy_18 : decode cX8_copy 18 = .ok (.getfield 28, 3) := by decide +kernel
theorem dX8_copy_21 : decode cX8_copy 21 = .ok (.putfield 28, 3) := by decide +kernel
theorem dX8_copy_24 : decode cX8_copy 24 = .ok (.aload_n 0, 1) := by decide +kernel
theorem dX8_copy_25 : decode cX8_copy 25 = .ok (.aload_n 1, 1) := by decide +kernel
theorem dX8_copy_26 : decode cX8_copy 26 = .ok (.getfield 31, 3) := by decide +kernel
theorem dX8_copy_29 : decode cX8_copy 29 = .ok (.putfield 31, 3) := by decide +kernel
theorem dX8_copy_32 : decode cX8_copy 32 = .ok (.aload_n 0, 1) := by decide +kernel
theorem dX8_copy_33 : decode cX8_copy 33 = .ok (.aload_n 1, 1) := by decide +kernel
theorem dX8_copy_34 : decode cX8_copy 34 = .ok (.getfield 22, 3) := by decide +kernel
theorem dX8_copy_37 : decode cX8_copy 37 = .ok (.putfield 22, 3) := by decide +kernel
theorem dX8_copy_40 : decode cX8_copy 40 = .ok (.aload_n 0, 1) := by decide +kernel
theorem dX8_copy_41 : decode cX8_copy 41 = .ok (.aload_n 1, 1) := by decide +kernel
theorem dX8_copy_42 : decode cX8_copy 42 = .ok (.getfield 34, 3) := by decide +kernel
theorem dX8_copy_45 : decode cX8_copy 45 = .ok (.putfield 34, 3) := by decide +kernel
theorem dX8_copy_48 : decode cX8_copy 48 = .ok (.aload_n 1, 1) := by decide +kernel
theorem dX8_copy_49 : decode cX8_copy 49 = .ok (.getfield 11, 3) := by decide +kernel
theorem dX8_copy_52 : decode cX8_copy 52 = .ok (.iconst 0, 1) := by decide +kernel
theorem dX8_copy_53 : decode cX8_copy 53 = .ok (.aload_n 0, 1) := by decide +kernel
theorem dX8_copy_54 : decode cX8_copy 54 = .ok (.getfield 11, 3) := by decide +kernel
theorem dX8_copy_57 : decode cX8_copy 57 = .ok (.iconst 0, 1) := by decide +kernel
theorem dX8_copy_58 : decode cX8_copy 58 = .ok (.aload_n 0, 1) := by decide +kernel
theorem dX8_copy_59 : decode cX8_copy 59 = .ok (.getfield 11, 3) := by decide +kernel
theorem dX8_copy_62 : decode cX8_copy 62 = .ok (.arraylength, 1) := by decide +kernel
theorem dX8_copy_63 : decode cX8_copy 63 = .ok (.invokestatic 37, 3) := by decide +kernel
theorem dX8_copy_66 : decode cX8_copy 66 = .ok (.return_, 1) := by decide +kernel
theorem dX8_order_0 : decode cX8_order 0 = .ok (.iload_n 1, 1) := by decide +kernel
theorem dX8_order_1 : decode cX8_order 1 = .ok (.ifCond .lt 39, 3) := by decide +kernel
theorem dX8_order_4 : decode cX8_order 4 = .ok (.iload_n 1, 1) := by decide +kernel
theorem dX8_order_5 : decode cX8_order 5 = .ok (.aload_n 0, 1) := by decide +kernel
theorem dX8_order_6 : decode cX8_order 6 = .ok (.getfield 22, 3) := by decide +kernel
theorem dX8_order_9 : decode cX8_order 9 = .ok (.if_icmp .ge 31, 3) := by decide +kernel
theorem dX8_order_12 : decode cX8_order 12 = .ok (.iload_n 1, 1) := by decide +kernel
theorem dX8_order_13 : decode cX8_order 13 = .ok (.bipush 12, 2) := by decide +kernel
theorem dX8_order_15 : decode cX8_order 15 = .ok (.if_icmp .ge 25, 3) := by decide +kernel
theorem dX8_order_18 : decode cX8_order 18 = .ok (.iload_n 2, 1) := by decide +kernel
theorem dX8_order_19 : decode cX8_order 19 = .ok (.iconst 0, 1) := by decide +kernel
theorem dX8_order_20 : decode cX8_order 20 = .ok (.iconst 4, 1) := by decide +kernel
theorem dX8_order_21 : decode cX8_order 21 = .ok (.invokestatic 43, 3) := by decide +kernel
theorem dX8_order_24 : decode cX8_order 24 = .ok (.ifCond .eq 16, 3) := by decide +kernel
theorem dX8_order_27 : decode cX8_order 27 = .ok (.aload_n 0, 1) := by decide +kernel
theorem dX8_order_28 : decode cX8_order 28 = .ok (.getfield 11, 3) := by decide +kernel
theorem dX8_order_31 : decode cX8_order 31 = .ok (.iload_n 1, 1) := by decide +kernel
theorem dX8_order_32 : decode cX8_order 32 = .ok (.iconst 5, 1) := by decide +kernel
theorem dX8_order_33 : decode cX8_order 33 = .ok (.imul, 1) := by decide +kernel
theorem dX8_order_34 : decode cX8_order 34 = .ok (.iload_n 2, 1) := by decide +kernel
theorem dX8_order_35 : decode cX8_order 35 = .ok (.iadd, 1) := by decide +kernel
theorem dX8_order_36 : decode cX8_order 36 = .ok (.iaload, 1) := by decide +kernel
theorem dX8_order_37 : decode cX8_order 37 = .ok (.goto 4, 3) := by decide +kernel
theorem dX8_order_40 : decode cX8_order 40 = .ok (.iconst (-1), 1) := by decide +kernel
theorem dX8_order_41 : decode cX8_order 41 = .ok (.ireturn, 1) := by decide +kernel
theorem dX8_throwsBy_0 : decode cX8_throwsBy 0 = .ok (.aload_n 0, 1) := by decide +kernel
theorem dX8_throwsBy_1 : decode cX8_throwsBy 1 = .ok (.iload_n 1, 1) := by decide +kernel
theorem dX8_throwsBy_2 : decode cX8_throwsBy 2 = .ok (.aload_n 0, 1) := by decide +kernel
theorem dX8_throwsBy_3 : decode cX8_throwsBy 3 = .ok (.getfield 28, 3) := by decide +kernel
theorem dX8_throwsBy_6 : decode cX8_throwsBy 6 = .ok (.aload_n 0, 1) := by decide +kernel
theorem dX8_throwsBy_7 : decode cX8_throwsBy 7 = .ok (.getfield 19, 3) := by decide +kernel
theorem dX8_throwsBy_10 : decode cX8_throwsBy 10 = .ok (.invokevirtual 47, 3) := by decide +kernel
theorem dX8_throwsBy_13 : decode cX8_throwsBy 13 = .ok (.ireturn, 1) := by decide +kernel
theorem dX8_wouldThrow_0 : decode cX8_wouldThrow 0 = .ok (.aload_n 0, 1) := by decide +kernel
theorem dX8_wouldThrow_1 : decode cX8_wouldThrow 1 = .ok (.iload_n 1, 1) := by decide +kernel
theorem dX8_wouldThrow_2 : decode cX8_wouldThrow 2 = .ok (.iconst 0, 1) := by decide +kernel
theorem dX8_wouldThrow_3 : decode cX8_wouldThrow 3 = .ok (.invokevirtual 50, 3) := by decide +kernel
theorem dX8_wouldThrow_6 : decode cX8_wouldThrow 6 = .ok (.iconst (-1), 1) := by decide +kernel
theorem dX8_wouldThrow_7 : decode cX8_wouldThrow 7 = .ok (.if_icmp .eq 10, 3) := by decide +kernel
theorem dX8_wouldThrow_10 : decode cX8_wouldThrow 10 = .ok (.iload_n 3, 1) := by decide +kernel
theorem dX8_wouldThrow_11 : decode cX8_wouldThrow 11 = .ok (.sipush 1000, 3) := by decide +kernel
theorem dX8_wouldThrow_14 : decode cX8_wouldThrow 14 = .ok (.if_icmp .lt 5, 3) := by decide +kernel
theorem dX8_wouldThrow_17 : decode cX8_wouldThrow 17 = .ok (.iconst 0, 1) := by decide +kernel
theorem dX8_wouldThrow_18 : decode cX8_wouldThrow 18 = .ok (.ireturn, 1) := by decide +kernel
theorem dX8_wouldThrow_19 : decode cX8_wouldThrow 19 = .ok (.aload_n 0, 1) := by decide +kernel
theorem dX8_wouldThrow_20 : decode cX8_wouldThrow 20 = .ok (.iload_n 1, 1) := by decide +kernel
theorem dX8_wouldThrow_21 : decode cX8_wouldThrow 21 = .ok (.iconst 4, 1) := by decide +kernel
theorem dX8_wouldThrow_22 : decode cX8_wouldThrow 22 = .ok (.invokevirtual 50, 3) := by decide +kernel
theorem dX8_wouldThrow_25 : decode cX8_wouldThrow 25 = .ok (.istore 4, 2) := by decide +kernel
theorem dX8_wouldThrow_27 : decode cX8_wouldThrow 27 = .ok (.iload 4, 2) := by decide +kernel
theorem dX8_wouldThrow_29 : decode cX8_wouldThrow 29 = .ok (.iconst (-1), 1) := by decide +kernel
theorem dX8_wouldThrow_30 : decode cX8_wouldThrow 30 = .ok (.if_icmp .eq 12, 3) := by decide +kernel
theorem dX8_wouldThrow_33 : decode cX8_wouldThrow 33 = .ok (.iload_n 2, 1) := by decide +kernel
theorem dX8_wouldThrow_34 : decode cX8_wouldThrow 34 = .ok (.iload 4, 2) := by decide +kernel
theorem dX8_wouldThrow_36 : decode cX8_wouldThrow 36 = .ok (.bipush 100, 2) := by decide +kernel
theorem dX8_wouldThrow_38 : decode cX8_wouldThrow 38 = .ok (.imul, 1) := by decide +kernel
theorem dX8_wouldThrow_39 : decode cX8_wouldThrow 39 = .ok (.if_icmp .ge 7, 3) := by decide +kernel
theorem dX8_wouldThrow_42 : decode cX8_wouldThrow 42 = .ok (.iconst 1, 1) := by decide +kernel
theorem dX8_wouldThrow_43 : decode cX8_wouldThrow 43 = .ok (.goto 4, 3) := by decide +kernel
theorem dX8_wouldThrow_46 : decode cX8_wouldThrow 46 = .ok (.iconst 0, 1) := by decide +kernel
theorem dX8_wouldThrow_47 : decode cX8_wouldThrow 47 = .ok (.ireturn, 1) := by decide +kernel
theorem dX9_init_0 : decode cX9_init 0 = .ok (.aload_n 0, 1) := by decide +kernel
theorem dX9_init_1 : decode cX9_init 1 = .ok (.invokespecial 3, 3) := by decide +kernel
theorem dX9_init_4 : decode cX9_init 4 = .ok (.aload_n 0, 1) := by decide +kernel
theorem dX9_init_5 : decode cX9_init 5 = .ok (.sipush 6300, 3) := by decide +kernel
theorem dX9_init_8 : decode cX9_init 8 = .ok (.newarray .long, 2) := by decide +kernel
theorem dX9_init_10 : decode cX9_init 10 = .ok (.putfield 11, 3) := by decide +kernel
theorem dX9_init_13 : decode cX9_init 13 = .ok (.aload_n 0, 1) := by decide +kernel
theorem dX9_init_14 : decode cX9_init 14 = .ok (.sipush 6300, 3) := by decide +kernel
theorem dX9_init_17 : decode cX9_init 17 = .ok (.newarray .long, 2) := by decide +kernel
theorem dX9_init_19 : decode cX9_init 19 = .ok (.putfield 15, 3) := by decide +kernel
theorem dX9_init_22 : decode cX9_init 22 = .ok (.aload_n 0, 1) := by decide +kernel
theorem dX9_init_23 : decode cX9_init 23 = .ok (.iconst 4, 1) := by decide +kernel
theorem dX9_init_24 : decode cX9_init 24 = .ok (.newarray .int, 2) := by decide +kernel
theorem dX9_init_26 : decode cX9_init 26 = .ok (.putfield 18, 3) := by decide +kernel
theorem dX9_init_29 : decode cX9_init 29 = .ok (.return_, 1) := by decide +kernel
theorem dX9_begin_0 : decode cX9_begin 0 = .ok (.aload_n 0, 1) := by decide +kernel
theorem dX9_begin_1 : decode cX9_begin 1 = .ok (.getfield 11, 3) := by decide +kernel
theorem dX9_begin_4 : decode cX9_begin 4 = .ok (.lconst 0, 1) := by decide +kernel
theorem dX9_begin_5 : decode cX9_begin 5 = .ok (.invokestatic 22, 3) := by decide +kernel
theorem dX9_begin_8 : decode cX9_begin 8 = .ok (.aload_n 0, 1) := by decide +kernel
theorem dX9_begin_9 : decode cX9_begin 9 = .ok (.getfield 11, 3) := by decide +kernel
theorem dX9_begin_12 : decode cX9_begin 12 = .ok (.iload_n 1, 1) := by decide +kernel
theorem dX9_begin_13 : decode cX9_begin 13 = .ok (.iload_n 2, 1) := by decide +kernel
theorem dX9_begin_14 : decode cX9_begin 14 = .ok (.bipush 15, 2) := by decide +kernel
