theorem dX9_begin_16 : decode cX9_begin 16 = .ok (.invokestatic 28, 3) := by decide +kernel
theorem dX9_begin_19 : decode cX9_begin 19 = .ok (.return_, 1) := by decide +kernel
theorem dX9_put_0 : decode cX9_put 0 = .ok (.iload_n 1, 1) := by decide +kernel
theorem dX9_put_1 : decode cX9_put 1 = .ok (.bipush 63, 2) := by decide +kernel
theorem dX9_put_3 : decode cX9_put 3 = .ok (.imul, 1) := by decide +kernel
theorem dX9_put_4 : decode cX9_put 4 = .ok (.iload_n 2, 1) := by decide +kernel
theorem dX9_put_5 : decode cX9_put 5 = .ok (.bipush 16, 2) := by decide +kernel
theorem dX9_put_7 : decode cX9_put 7 = .ok (.idiv, 1) := by decide +kernel
theorem dX9_put_8 : decode cX9_put 8 = .ok (.iadd, 1) := by decide +kernel
theorem dX9_put_9 : decode cX9_put 9 = .ok (.istore 4, 2) := by decide +kernel
theorem dX9_put_11 : decode cX9_put 11 = .ok (.iload 4, 2) := by decide +kernel
theorem dX9_put_13 : decode cX9_put 13 = .ok (.ifCond .lt 26, 3) := by decide +kernel
theorem dX9_put_16 : decode cX9_put 16 = .ok (.iload 4, 2) := by decide +kernel
theorem dX9_put_18 : decode cX9_put 18 = .ok (.aload_n 0, 1) := by decide +kernel
theorem dX9_put_19 : decode cX9_put 19 = .ok (.arraylength, 1) := by decide +kernel
theorem dX9_put_20 : decode cX9_put 20 = .ok (.if_icmp .ge 19, 3) := by decide +kernel
theorem dX9_put_23 : decode cX9_put 23 = .ok (.aload_n 0, 1) := by decide +kernel
theorem dX9_put_24 : decode cX9_put 24 = .ok (.iload 4, 2) := by decide +kernel
theorem dX9_put_26 : decode cX9_put 26 = .ok (.dup2, 1) := by decide +kernel
theorem dX9_put_27 : decode cX9_put 27 = .ok (.laload, 1) := by decide +kernel
theorem dX9_put_28 : decode cX9_put 28 = .ok (.iload_n 3, 1) := by decide +kernel
theorem dX9_put_29 : decode cX9_put 29 = .ok (.i2l, 1) := by decide +kernel
theorem dX9_put_30 : decode cX9_put 30 = .ok (.iload_n 2, 1) := by decide +kernel
theorem dX9_put_31 : decode cX9_put 31 = .ok (.bipush 16, 2) := by decide +kernel
theorem dX9_put_33 : decode cX9_put 33 = .ok (.irem, 1) := by decide +kernel
theorem dX9_put_34 : decode cX9_put 34 = .ok (.iconst 4, 1) := by decide +kernel
theorem dX9_put_35 : decode cX9_put 35 = .ok (.imul, 1) := by decide +kernel
theorem dX9_put_36 : decode cX9_put 36 = .ok (.lshl, 1) := by decide +kernel
theorem dX9_put_37 : decode cX9_put 37 = .ok (.lor, 1) := by decide +kernel
theorem dX9_put_38 : decode cX9_put 38 = .ok (.lastore, 1) := by decide +kernel
theorem dX9_put_39 : decode cX9_put 39 = .ok (.return_, 1) := by decide +kernel
theorem dX9_week_0 : decode cX9_week 0 = .ok (.aload_n 0, 1) := by decide +kernel
theorem dX9_week_1 : decode cX9_week 1 = .ok (.getfield 15, 3) := by decide +kernel
theorem dX9_week_4 : decode cX9_week 4 = .ok (.lconst 0, 1) := by decide +kernel
theorem dX9_week_5 : decode cX9_week 5 = .ok (.invokestatic 22, 3) := by decide +kernel
theorem dX9_week_8 : decode cX9_week 8 = .ok (.iconst 0, 1) := by decide +kernel
theorem dX9_week_9 : decode cX9_week 9 = .ok (.istore 4, 2) := by decide +kernel
theorem dX9_week_11 : decode cX9_week 11 = .ok (.iload 4, 2) := by decide +kernel
theorem dX9_week_13 : decode cX9_week 13 = .ok (.aload_n 0, 1) := by decide +kernel
theorem dX9_week_14 : decode cX9_week 14 = .ok (.getfield 11, 3) := by decide +kernel
theorem dX9_week_17 : decode cX9_week 17 = .ok (.arraylength, 1) := by decide +kernel
theorem dX9_week_18 : decode cX9_week 18 = .ok (.if_icmp .ge 86, 3) := by decide +kernel
theorem dX9_week_21 : decode cX9_week 21 = .ok (.aload_n 0, 1) := by decide +kernel
theorem dX9_week_22 : decode cX9_week 22 = .ok (.getfield 11, 3) := by decide +kernel
theorem dX9_week_25 : decode cX9_week 25 = .ok (.iload 4, 2) := by decide +kernel
theorem dX9_week_27 : decode cX9_week 27 = .ok (.laload, 1) := by decide +kernel
theorem dX9_week_28 : decode cX9_week 28 = .ok (.lstore 5, 2) := by decide +kernel
theorem dX9_week_30 : decode cX9_week 30 = .ok (.iconst 0, 1) := by decide +kernel
theorem dX9_week_31 : decode cX9_week 31 = .ok (.istore 7, 2) := by decide +kernel
theorem dX9_week_33 : decode cX9_week 33 = .ok (.iload 7, 2) := by decide +kernel
theorem dX9_week_35 : decode cX9_week 35 = .ok (.bipush 16, 2) := by decide +kernel
theorem dX9_week_37 : decode cX9_week 37 = .ok (.if_icmp .ge 61, 3) := by decide +kernel
theorem dX9_week_40 : decode cX9_week 40 = .ok (.lload 5, 2) := by decide +kernel
theorem dX9_week_42 : decode cX9_week 42 = .ok (.lconst 0, 1) := by decide +kernel
theorem dX9_week_43 : decode cX9_week 43 = .ok (.lcmp, 1) := by decide +kernel
theorem dX9_week_44 : decode cX9_week 44 = .ok (.ifCond .eq 54, 3) := by decide +kernel
theorem dX9_week_47 : decode cX9_week 47 = .ok (.lload 5, 2) := by decide +kernel
theorem dX9_week_49 : decode cX9_week 49 = .ok (.ldc2_w 32, 3) := by decide +kernel
theorem dX9_week_52 : decode cX9_week 52 = .ok (.land, 1) := by decide +kernel
theorem dX9_week_53 : decode cX9_week 53 = .ok (.l2i, 1) := by decide +kernel
theorem dX9_week_54 : decode cX9_week 54 = .ok (.istore 8, 2) := by decide +kernel
theorem dX9_week_56 : decode cX9_week 56 = .ok (.iload 8, 2) := by decide +kernel
theorem dX9_week_58 : decode cX9_week 58 = .ok (.ifCond .eq 28, 3) := by decide +kernel
theorem dX9_week_61 : decode cX9_week 61 = .ok (.aload_n 0, 1) := by decide +kernel
theorem dX9_week_62 : decode cX9_week 62 = .ok (.aload_n 1, 1) := by decide +kernel
theorem dX9_week_63 : decode cX9_week 63 = .ok (.iload_n 2, 1) := by decide +kernel
theorem dX9_week_64 : decode cX9_week 64 = .ok (.iload_n 3, 1) := by decide +kernel
theorem dX9_week_65 : decode cX9_week 65 = .ok (.iload 4, 2) := by decide +kernel
theorem dX9_week_67 : decode cX9_week 67 = .ok (.bipush 63, 2) := by decide +kernel
theorem dX9_week_69 : decode cX9_week 69 = .ok (.idiv, 1) := by decide +kernel
theorem dX9_week_70 : decode cX9_week 70 = .ok (.iload 4, 2) := by decide +kernel
theorem dX9_week_72 : decode cX9_week 72 = .ok (.bipush 63, 2) := by decide +kernel
theorem dX9_week_74 : decode cX9_week 74 = .ok (.irem, 1) := by decide +kernel
theorem dX9_week_75 : decode cX9_week 75 = .ok (.bipush 16, 2) := by decide +kernel
theorem dX9_week_77 : decode cX9_week 77 = .ok (.imul, 1) := by decide +kernel
theorem dX9_week_78 : decode cX9_week 78 = .ok (.iload 7, 2) := by decide +kernel
theorem dX9_week_80 : decode cX9_week 80 = .ok (.iadd, 1) := by decide +kernel
theorem dX9_week_81 : decode cX9_week 81 = .ok (.iload 8, 2) := by decide +kernel
theorem dX9_week_83 : decode cX9_week 83 = .ok (.invokevirtual 34, 3) := by decide +kernel
theorem dX9_week_86 : decode cX9_week 86 = .ok (.lload 5, 2) := by decide +kernel
theorem dX9_week_88 : decode cX9_week 88 = .ok (.iconst 4, 1) := by decide +kernel
theorem dX9_week_89 : decode cX9_week 89 = .ok (.lushr, 1) := by decide +kernel
theorem dX9_week_90 : decode cX9_week 90 = .ok (.lstore 5, 2) := by decide +kernel
theorem dX9_week_92 : decode cX9_week 92 = .ok (.iinc 7 1, 3) := by decide +kernel
theorem dX9_week_95 : decode cX9_week 95 = .ok (.goto (-62), 3) := by decide +kernel
theorem dX9_week_98 : decode cX9_week 98 = .ok (.iinc 4 1, 3) := by decide +kernel
theorem dX9_week_101 : decode cX9_week 101 = .ok (.goto (-90), 3) := by decide +kernel
theorem dX9_week_104 : decode cX9_week 104 = .ok (.aload_n 0, 1) := by decide +kernel
theorem dX9_week_105 : decode cX9_week 105 = .ok (.getfield 11, 3) := by decide +kernel
theorem dX9_week_108 : decode cX9_week 108 = .ok (.astore 4, 2) := by decide +kernel
theorem dX9_week_110 : decode cX9_week 110 = .ok (.aload_n 0, 1) := by decide +kernel
theorem dX9_week_111 : decode cX9_week 111 = .ok (.aload_n 0, 1) := by decide +kernel
theorem dX9_week_112 : decode cX9_week 112 = .ok (.getfield 15, 3) := by decide +kernel
theorem dX9_week_115 : decode cX9_week 115 = .ok (.putfield 11, 3) := by decide +kernel
theorem dX9_week_118 : decode cX9_week 118 = .ok (.aload_n 0, 1) := by decide +kernel
theorem dX9_week_119 : decode cX9_week 119 = .ok (.aload 4, 2) := by decide +kernel
theorem dX9_week_121 : decode cX9_week 121 = .ok (.putfield 15, 3) := by decide +kernel
theorem dX9_week_124 : decode cX9_week 124 = .ok (.return_, 1) := by decide +kernel
theorem dX9_spread_0 : decode cX9_spread 0 = .ok (.iconst 0, 1) := by decide +kernel
theorem dX9_spread_1 : decode cX9_spread 1 = .ok (.istore 7, 2) := by decide +kernel
theorem dX9_spread_3 : decode cX9_spread 3 = .ok (.iload 7, 2) := by decide +kernel
theorem dX9_spread_5 : decode cX9_spread 5 = .ok (.iconst 3, 1) := by decide +kernel
theorem dX9_spread_6 : decode cX9_spread 6 = .ok (.if_icmp .gt 125, 3) := by decide +kernel
theorem dX9_spread_9 : decode cX9_spread 9 = .ok (.aload_n 0, 1) := by decide +kernel
theorem dX9_spread_10 : decode cX9_spread 10 = .ok (.getfield 18, 3) := by decide +kernel
theorem dX9_spread_13 : decode cX9_spread 13 = .ok (.iconst 0, 1) := by decide +kernel
theorem dX9_spread_14 : decode cX9_spread 14 = .ok (.iload 7, 2) := by decide +kernel
theorem dX9_spread_16 : decode cX9_spread 16 = .ok (.iastore, 1) := by decide +kernel
theorem dX9_spread_17 : decode cX9_spread 17 = .ok (.aload_n 0, 1) := by decide +kernel
theorem dX9_spread_18 : decode cX9_spread 18 = .ok (.getfield 18, 3) := by decide +kernel
theorem dX9_spread_21 : decode cX9_spread 21 = .ok (.iconst 1, 1) := by decide +kernel
theorem dX9_spread_22 : decode cX9_spread 22 = .ok (.iload 4, 2) := by decide +kernel
theorem dX9_spread_24 : decode cX9_spread 24 = .ok (.iastore, 1) := by decide +kernel
theorem dX9_spread_25 : decode cX9_spread 25 = .ok (.aload_n 0, 1) := by decide +kernel
theorem dX9_spread_26 : decode cX9_spread 26 = .ok (.getfield 18, 3) := by decide +kernel
theorem dX9_spread_29 : decode cX9_spread 29 = .ok (.iconst 2, 1) := by decide +kernel
theorem dX9_spread_30 : decode cX9_spread 30 = .ok (.iload 5, 2) := by decide +kernel
theorem dX9_spread_32 : decode cX9_spread 32 = .ok (.iastore, 1) := by decide +kernel
theorem dX9_spread_33 : decode cX9_spread 33 = .ok (.aload_n 0, 1) := by decide +kernel
theorem dX9_spread_34 : decode cX9_spread 34 = .ok (.getfield 18, 3) := by decide +kernel
theorem dX9_spread_37 : decode cX9_spread 37 = .ok (.iconst 3, 1) := by decide +kernel
theorem dX9_spread_38 : decode cX9_spread 38 = .ok (.iload_n 2, 1) := by decide +kernel
theorem dX9_spread_39 : decode cX9_spread 39 = .ok (.iastore, 1) := by decide +kernel
theorem dX9_spread_40 : decode cX9_spread 40 = .ok (.aload_n 1, 1) := by decide +kernel
theorem dX9_spread_41 : decode cX9_spread 41 = .ok (.iconst 0, 1) := by decide +kernel
theorem dX9_spread_42 : decode cX9_spread 42 = .ok (.aload_n 0, 1) := by decide +kernel
theorem dX9_spread_43 : decode cX9_spread 43 = .ok (.getfield 18, 3) := by decide +kernel
theorem dX9_spread_46 : decode cX9_spread 46 = .ok (.invokevirtual 38, 3) := by decide +kernel
theorem dX9_spread_49 : decode cX9_spread 49 = .ok (.iconst 0, 1) := by decide +kernel
theorem dX9_spread_50 : decode cX9_spread 50 = .ok (.bipush 9, 2) := by decide +kernel
theorem dX9_spread_52 : decode cX9_spread 52 = .ok (.invokestatic 44, 3) := by decide +kernel
theorem dX9_spread_55 : decode cX9_spread 55 = .ok (.istore 8, 2) := by decide +kernel
theorem dX9_spread_57 : decode cX9_spread 57 = .ok (.iload 5, 2) := by decide +kernel
theorem dX9_spread_59 : decode cX9_spread 59 = .ok (.aload_n 1, 1) := by decide +kernel
theorem dX9_spread_60 : decode cX9_spread 60 = .ok (.iconst 1, 1) := by decide +kernel
theorem dX9_spread_61 : decode cX9_spread 61 = .ok (.aload_n 0, 1) := by decide +kernel
theorem dX9_spread_62 : decode cX9_spread 62 = .ok (.getfield 18, 3) := by decide +kernel
theorem dX9_spread_65 : decode cX9_spread 65 = .ok (.invokevirtual 38, 3) := by decide +kernel
theorem dX9_spread_68 : decode cX9_spread 68 = .ok (.sipush (-200), 3) := by decide +kernel
theorem dX9_spread_71 : decode cX9_spread 71 = .ok (.sipush 200, 3) := by decide +kernel
theorem dX9_spread_74 : decode cX9_spread 74 = .ok (.invokestatic 44, 3) := by decide +kernel
theorem dX9_spread_77 : decode cX9_spread 77 = .ok (.iadd, 1) := by decide +kernel
theorem dX9_spread_78 : decode cX9_spread 78 = .ok (.iconst 0, 1) := by decide +kernel
theorem dX9_spread_79 : decode cX9_spread 79 = .ok (.sipush 1000, 3) := by decide +kernel
theorem dX9_spread_82 : decode cX9_spread 82 = .ok (.invokestatic 44, 3) := by decide +kernel
theorem dX9_spread_85 : decode cX9_spread 85 = .ok (.istore 9, 2) := by decide +kernel
theorem dX9_spread_87 : decode cX9_spread 87 = .ok (.iload 9, 2) := by decide +kernel
theorem dX9_spread_89 : decode cX9_spread 89 = .ok (.iload_n 3, 1) := by decide +kernel
theorem dX9_spread_90 : decode cX9_spread 90 = .ok (.if_icmp .gt 35, 3) := by decide +kernel
theorem dX9_spread_93 : decode cX9_spread 93 = .ok (.aload_n 0, 1) := by decide +kernel
theorem dX9_spread_94 : decode cX9_spread 94 = .ok (.getfield 15, 3) := by decide +kernel
theorem dX9_spread_97 : decode cX9_spread 97 = .ok (.bipush 99, 2) := by decide +kernel
theorem dX9_spread_99 : decode cX9_spread 99 = .ok (.iload 4, 2) := by decide +kernel
theorem dX9_spread_101 : decode cX9_spread 101 = .ok (.iload 8, 2) := by decide +kernel
theorem dX9_spread_103 : decode cX9_spread 103 = .ok (.iadd, 1) := by decide +kernel
theorem dX9_spread_104 : decode cX9_spread 104 = .ok (.invokestatic 48, 3) := by decide +kernel
theorem dX9_spread_107 : decode cX9_spread 107 = .ok (.iload 9, 2) := by decide +kernel
theorem dX9_spread_109 : decode cX9_spread 109 = .ok (.iload_n 2, 1) := by decide +kernel
theorem dX9_spread_110 : decode cX9_spread 110 = .ok (.ifCond .ne 10, 3) := by decide +kernel
theorem dX9_spread_113 : decode cX9_spread 113 = .ok (.iconst 1, 1) := by decide +kernel
theorem dX9_spread_114 : decode cX9_spread 114 = .ok (.iload 7, 2) := by decide +kernel
theorem dX9_spread_116 : decode cX9_spread 116 = .ok (.ishl, 1) := by decide +kernel
theorem dX9_spread_117 : decode cX9_spread 117 = .ok (.goto 5, 3) := by decide +kernel
theorem dX9_spread_120 : decode cX9_spread 120 = .ok (.iload 6, 2) := by decide +kernel
theorem dX9_spread_122 : decode cX9_spread 122 = .ok (.invokestatic 28, 3) := by decide +kernel
theorem dX9_spread_125 : decode cX9_spread 125 = .ok (.iinc 7 1, 3) := by decide +kernel
theorem dX9_spread_128 : decode cX9_spread 128 = .ok (.goto (-125), 3) := by decide +kernel
theorem dX9_spread_131 : decode cX9_spread 131 = .ok (.return_, 1) := by decide +kernel
theorem dX9_judge_0 : decode cX9_judge 0 = .ok (.aload_n 0, 1) := by decide +kernel
theorem dX9_judge_1 : decode cX9_judge 1 = .ok (.iconst (-1), 1) := by decide +kernel
theorem dX9_judge_2 : decode cX9_judge 2 = .ok (.putfield 54, 3) := by decide +kernel
theorem dX9_judge_5 : decode cX9_judge 5 = .ok (.aload_n 0, 1) := by decide +kernel
theorem dX9_judge_6 : decode cX9_judge 6 = .ok (.iconst (-1), 1) := by decide +kernel
theorem dX9_judge_7 : decode cX9_judge 7 = .ok (.putfield 58, 3) := by decide +kernel
theorem dX9_judge_10 : decode cX9_judge 10 = .ok (.lconst 0, 1) := by decide +kernel
theorem dX9_judge_11 : decode cX9_judge 11 = .ok (.lstore_n 1, 1) := by decide +kernel
theorem dX9_judge_12 : decode cX9_judge 12 = .ok (.aload_n 0, 1) := by decide +kernel
theorem dX9_judge_13 : decode cX9_judge 13 = .ok (.getfield 11, 3) := by decide +kernel
theorem dX9_judge_16 : decode cX9_judge 16 = .ok (.arraylength, 1) := by decide +kernel
theorem dX9_judge_17 : decode cX9_judge 17 = .ok (.iconst 1, 1) := by decide +kernel
theorem dX9_judge_18 : decode cX9_judge 18 = .ok (.isub, 1) := by decide +kernel
theorem dX9_judge_19 : decode cX9_judge 19 = .ok (.istore_n 3, 1) := by decide +kernel
theorem dX9_judge_20 : decode cX9_judge 20 = .ok (.iload_n 3, 1) := by decide +kernel
theorem dX9_judge_21 : decode cX9_judge 21 = .ok (.ifCond .lt 56, 3) := by decide +kernel
theorem dX9_judge_24 : decode cX9_judge 24 = .ok (.aload_n 0, 1) := by decide +kernel
theorem dX9_judge_25 : decode cX9_judge 25 = .ok (.getfield 11, 3) := by decide +kernel
theorem dX9_judge_28 : decode cX9_judge 28 = .ok (.iload_n 3, 1) := by decide +kernel
theorem dX9_judge_29 : decode cX9_judge 29 = .ok (.laload, 1) := by decide +kernel
theorem dX9_judge_30 : decode cX9_judge 30 = .ok (.lconst 0, 1) := by decide +kernel
theorem dX9_judge_31 : decode cX9_judge 31 = .ok (.lcmp, 1) := by decide +kernel
theorem dX9_judge_32 : decode cX9_judge 32 = .ok (.ifCond .eq 39, 3) := by decide +kernel
theorem dX9_judge_35 : decode cX9_judge 35 = .ok (.aload_n 0, 1) := by decide +kernel
theorem dX9_judge_36 : decode cX9_judge 36 = .ok (.getfield 54, 3) := by decide +kernel
theorem dX9_judge_39 : decode cX9_judge 39 = .ok (.iconst (-1), 1) := by decide +kernel
theorem dX9_judge_40 : decode cX9_judge 40 = .ok (.if_icmp .eq 14, 3) := by decide +kernel
theorem dX9_judge_43 : decode cX9_judge 43 = .ok (.iload_n 3, 1) := by decide +kernel
theorem dX9_judge_44 : decode cX9_judge 44 = .ok (.bipush 63, 2) := by decide +kernel
theorem dX9_judge_46 : decode cX9_judge 46 = .ok (.idiv, 1) := by decide +kernel
theorem dX9_judge_47 : decode cX9_judge 47 = .ok (.aload_n 0, 1) := by decide +kernel
theorem dX9_judge_48 : decode cX9_judge 48 = .ok (.getfield 54, 3) := by decide +kernel
theorem dX9_judge_51 : decode cX9_judge 51 = .ok (.if_icmp .ne 20, 3) := by decide +kernel
theorem dX9_judge_54 : decode cX9_judge 54 = .ok (.aload_n 0, 1) := by decide +kernel
theorem dX9_judge_55 : decode cX9_judge 55 = .ok (.iload_n 3, 1) := by decide +kernel
theorem dX9_judge_56 : decode cX9_judge 56 = .ok (.bipush 63, 2) := by decide +kernel
theorem dX9_judge_58 : decode cX9_judge 58 = .ok (.idiv, 1) := by decide +kernel
theorem dX9_judge_59 : decode cX9_judge 59 = .ok (.putfield 54, 3) := by decide +kernel
theorem dX9_judge_62 : decode cX9_judge 62 = .ok (.lload_n 1, 1) := by decide +kernel
theorem dX9_judge_63 : decode cX9_judge 63 = .ok (.aload_n 0, 1) := by decide +kernel
theorem dX9_judge_64 : decode cX9_judge 64 = .ok (.getfield 11, 3) := by decide +kernel
theorem dX9_judge_67 : decode cX9_judge 67 = .ok (.iload_n 3, 1) := by decide +kernel
theorem dX9_judge_68 : decode cX9_judge 68 = .ok (.laload, 1) := by decide +kernel
theorem dX9_judge_69 : decode cX9_judge 69 = .ok (.lor, 1) := by decide +kernel
theorem dX9_judge_70 : decode cX9_judge 70 = .ok (.lstore_n 1, 1) := by decide +kernel
theorem dX9_judge_71 : decode cX9_judge 71 = .ok (.iinc 3 (-1), 3) := by decide +kernel
theorem dX9_judge_74 : decode cX9_judge 74 = .ok (.goto (-54), 3) := by decide +kernel
theorem dX9_judge_77 : decode cX9_judge 77 = .ok (.iconst 3, 1) := by decide +kernel
theorem dX9_judge_78 : decode cX9_judge 78 = .ok (.istore_n 3, 1) := by decide +kernel
theorem dX9_judge_79 : decode cX9_judge 79 = .ok (.iload_n 3, 1) := by decide +kernel
theorem dX9_judge_80 : decode cX9_judge 80 = .ok (.ifCond .lt 26, 3) := by decide +kernel
theorem dX9_judge_83 : decode cX9_judge 83 = .ok (.lload_n 1, 1) := by decide +kernel
theorem dX9_judge_84 : decode cX9_judge 84 = .ok (.ldc2_w 61, 3) := by decide +kernel
theorem dX9_judge_87 : decode cX9_judge 87 = .ok (.iload_n 3, 1) := by decide +kernel
theorem dX9_judge_88 : decode cX9_judge 88 = .ok (.lshl, 1) := by decide +kernel
theorem dX9_judge_89 : decode cX9_judge 89 = .ok (.land, 1) := by decide +kernel
theorem dX9_judge_90 : decode cX9_judge 90 = .ok (.lconst 0, 1) := by decide +kernel
theorem dX9_judge_91 : decode cX9_judge 91 = .ok (.lcmp, 1) := by decide +kernel
theorem dX9_judge_92 : decode cX9_judge 92 = .ok (.ifCond .eq 8, 3) := by decide +kernel
theorem dX9_judge_95 : decode cX9_judge 95 = .ok (.aload_n 0, 1) := by decide +kernel
theorem dX9_judge_96 : decode cX9_judge 96 = .ok (.iload_n 3, 1) := by decide +kernel
theorem dX9_judge_97 : decode cX9_judge 97 = .ok (.putfield 58, 3) := by decide +kernel
theorem dX9_judge_100 : decode cX9_judge 100 = .ok (.iinc 3 (-1), 3) := by decide +kernel
theorem dX9_judge_103 : decode cX9_judge 103 = .ok (.goto (-24), 3) := by decide +kernel
theorem dX9_judge_106 : decode cX9_judge 106 = .ok (.return_, 1) := by decide +kernel
theorem dX10_init_0 : decode cX10_init 0 = .ok (.aload_n 0, 1) := by decide +kernel
theorem dX10_init_1 : decode cX10_init 1 = .ok (.invokespecial 3, 3) := by decide +kernel
theorem dX10_init_4 : decode cX10_init 4 = .ok (.aload_n 0, 1) := by decide +kernel
theorem dX10_init_5 : decode cX10_init 5 = .ok (.iconst 5, 1) := by decide +kernel
theorem dX10_init_6 : decode cX10_init 6 = .ok (.newarray .int, 2) := by decide +kernel
theorem dX10_init_8 : decode cX10_init 8 = .ok (.putfield 9, 3) := by decide +kernel
theorem dX10_init_11 : decode cX10_init 11 = .ok (.aload_n 0, 1) := by decide +kernel
theorem dX10_init_12 : decode cX10_init 12 = .ok (.bipush 6, 2) := by decide +kernel
theorem dX10_init_14 : decode cX10_init 14 = .ok (.newarray .int, 2) := by decide +kernel
theorem dX10_init_16 : decode cX10_init 16 = .ok (.putfield 15, 3) := by decide +kernel
theorem dX10_init_19 : decode cX10_init 19 = .ok (.aload_n 0, 1) := by decide +kernel
theorem dX10_init_20 : decode cX10_init 20 = .ok (.bipush 6, 2) := by decide +kernel
theorem dX10_init_22 : decode cX10_init 22 = .ok (.newarray .int, 2) := by decide +kernel
theorem dX10_init_24 : decode cX10_init 24 = .ok (.putfield 18, 3) := by decide +kernel
theorem dX10_init_27 : decode cX10_init 27 = .ok (.aload_n 0, 1) := by decide +kernel
theorem dX10_init_28 : decode cX10_init 28 = .ok (.bipush 8, 2) := by decide +kernel
theorem dX10_init_30 : decode cX10_init 30 = .ok (.anewarray 21, 3) := by decide +kernel
theorem dX10_init_33 : decode cX10_init 33 = .ok (.putfield 23, 3) := by decide +kernel
theorem dX10_init_36 : decode cX10_init 36 = .ok (.aload_n 0, 1) := by decide +kernel
theorem dX10_init_37 : decode cX10_init 37 = .ok (.sipush 900, 3) := by decide +kernel
theorem dX10_init_40 : decode cX10_init 40 = .ok (.newarray .int, 2) := by decide +kernel
theorem dX10_init_42 : decode cX10_init 42 = .ok (.putfield 27, 3) := by decide +kernel
theorem dX10_init_45 : decode cX10_init 45 = .ok (.aload_n 0, 1) := by decide +kernel
theorem dX10_init_46 : decode cX10_init 46 = .ok (.bipush 60, 2) := by decide +kernel
theorem dX10_init_48 : decode cX10_init 48 = .ok (.newarray .int, 2) := by decide +kernel
theorem dX10_init_50 : decode cX10_init 50 = .ok (.putfield 30, 3) := by decide +kernel
theorem dX10_init_53 : decode cX10_init 53 = .ok (.aload_n 0, 1) := by decide +kernel
theorem dX10_init_54 : decode cX10_init 54 = .ok (.new 33, 3) := by decide +kernel
theorem dX10_init_57 : decode cX10_init 57 = .ok (.dup, 1) := by decide +kernel
theorem dX10_init_58 : decode cX10_init 58 = .ok (.invokespecial 35, 3) := by decide +kernel
theorem dX10_init_61 : decode cX10_init 61 = .ok (.putfield 36, 3) := by decide +kernel
theorem dX10_init_64 : decode cX10_init 64 = .ok (.aload_n 0, 1) := by decide +kernel
theorem dX10_init_65 : decode cX10_init 65 = .ok (.new 33, 3) := by decide +kernel
theorem dX10_init_68 : decode cX10_init 68 = .ok (.dup, 1) := by decide +kernel
theorem dX10_init_69 : decode cX10_init 69 = .ok (.invokespecial 35, 3) := by decide +kernel
theorem dX10_init_72 : decode cX10_init 72 = .ok (.putfield 40, 3) := by decide +kernel
theorem dX10_init_75 : decode cX10_init 75 = .ok (.aload_n 0, 1) := by decide +kernel
theorem dX10_init_76 : decode cX10_init 76 = .ok (.new 33, 3) := by decide +kernel
theorem dX10_init_79 : decode cX10_init 79 = .ok (.dup, 1) := by decide +kernel
theorem dX10_init_80 : decode cX10_init 80 = .ok (.invokespecial 35, 3) := by decide +kernel
theorem dX10_init_83 : decode cX10_init 83 = .ok (.putfield 43, 3) := by decide +kernel
theorem dX10_init_86 : decode cX10_init 86 = .ok (.aload_n 0, 1) := by decide +kernel
theorem dX10_init_87 : decode cX10_init 87 = .ok (.getfield 9, 3) := by decide +kernel
theorem dX10_init_90 : decode cX10_init 90 = .ok (.iconst 4, 1) := by decide +kernel
theorem dX10_init_91 : decode cX10_init 91 = .ok (.bipush 7, 2) := by decide +kernel
theorem dX10_init_93 : decode cX10_init 93 = .ok (.iastore, 1) := by decide +kernel
theorem dX10_init_94 : decode cX10_init 94 = .ok (.iconst 0, 1) := by decide +kernel
theorem dX10_init_95 : decode cX10_init 95 = .ok (.istore_n 1, 1) := by decide +kernel
theorem dX10_init_96 : decode cX10_init 96 = .ok (.iload_n 1, 1) := by decide +kernel
theorem dX10_init_97 : decode cX10_init 97 = .ok (.bipush 8, 2) := by decide +kernel
theorem dX10_init_99 : decode cX10_init 99 = .ok (.if_icmp .ge 22, 3) := by decide +kernel
theorem dX10_init_102 : decode cX10_init 102 = .ok (.aload_n 0, 1) := by decide +kernel
theorem dX10_init_103 : decode cX10_init 103 = .ok (.getfield 23, 3) := by decide +kernel
theorem dX10_init_106 : decode cX10_init 106 = .ok (.iload_n 1, 1) := by decide +kernel
theorem dX10_init_107 : decode cX10_init 107 = .ok (.new 21, 3) := by decide +kernel
theorem dX10_init_110 : decode cX10_init 110 = .ok (.dup, 1) := by decide +kernel
theorem dX10_init_111 : decode cX10_init 111 = .ok (.invokespecial 46, 3) := by decide +kernel
theorem dX10_init_114 : decode cX10_init 114 = .ok (.aastore, 1) := by decide +kernel
theorem dX10_init_115 : decode cX10_init 115 = .ok (.iinc 1 1, 3) := by decide +kernel
theorem dX10_init_118 : decode cX10_init 118 = .ok (.goto (-22), 3) := by decide +kernel
theorem dX10_init_121 : decode cX10_init 121 = .ok (.return_, 1) := by decide +kernel
theorem dX10_copy_0 : decode cX10_copy 0 = .ok (.aload_n 0, 1) := by decide +kernel
theorem dX10_copy_1 : decode cX10_copy 1 = .ok (.aload_n 1, 1) := by decide +kernel
theorem dX10_copy_2 : decode cX10_copy 2 = .ok (.getfield 47, 3) := by decide +kernel
theorem dX10_copy_5 : decode cX10_copy 5 = .ok (.putfield 47, 3) := by decide +kernel
theorem dX10_copy_8 : decode cX10_copy 8 = .ok (.aload_n 0, 1) := by decide +kernel
theorem dX10_copy_9 : decode cX10_copy 9 = .ok (.aload_n 1, 1) := by decide +kernel
theorem dX10_copy_10 : decode cX10_copy 10 = .ok (.getfield 51, 3) := by decide +kernel
theorem dX10_copy_13 : decode cX10_copy 13 = .ok (.putfield 51, 3) := by decide +kernel
theorem dX10_copy_16 : decode cX10_copy 16 = .ok (.aload_n 0, 1) := by decide +kernel
theorem dX10_copy_17 : decode cX10_copy 17 = .ok (.aload_n 1, 1) := by decide +kernel
theorem dX10_copy_18 : decode cX10_copy 18 = .ok (.getfield 54, 3) := by decide +kernel
theorem dX10_copy_21 : decode cX10_copy 21 = .ok (.putfield 54, 3) := by decide +kernel
theorem dX10_copy_24 : decode cX10_copy 24 = .ok (.aload_n 0, 1) := by decide +kernel
theorem dX10_copy_25 : decode cX10_copy 25 = .ok (.aload_n 1, 1) := by decide +kernel
theorem dX10_copy_26 : decode cX10_copy 26 = .ok (.getfield 57, 3) := by decide +kernel
theorem dX10_copy_29 : decode cX10_copy 29 = .ok (.putfield 57, 3) := by decide +kernel
theorem dX10_copy_32 : decode cX10_copy 32 = .ok (.aload_n 0, 1) := by decide +kernel
theorem dX10_copy_33 : decode cX10_copy 33 = .ok (.aload_n 1, 1) := by decide +kernel
theorem dX10_copy_34 : decode cX10_copy 34 = .ok (.getfield 60, 3) := by decide +kernel
theorem dX10_copy_37 : decode cX10_copy 37 = .ok (.putfield 60, 3) := by decide +kernel
theorem dX10_copy_40 : decode cX10_copy 40 = .ok (.aload_n 0, 1) := by decide +kernel
theorem dX10_copy_41 : decode cX10_copy 41 = .ok (.aload_n 1, 1) := by decide +kernel
theorem dX10_copy_42 : decode cX10_copy 42 = .ok (.getfield 63, 3) := by decide +kernel
theorem dX10_copy_45 : decode cX10_copy 45 = .ok (.putfield 63, 3) := by decide +kernel
theorem dX10_copy_48 : decode cX10_copy 48 = .ok (.aload_n 0, 1) := by decide +kernel
theorem dX10_copy_49 : decode cX10_copy 49 = .ok (.aload_n 1, 1) := by decide +kernel
theorem dX10_copy_50 : decode cX10_copy 50 = .ok (.getfield 66, 3) := by decide +kernel
theorem dX10_copy_53 : decode cX10_copy 53 = .ok (.putfield 66, 3) := by decide +kernel
theorem dX10_copy_56 : decode cX10_copy 56 = .ok (.aload_n 0, 1) := by decide +kernel
theorem dX10_copy_57 : decode cX10_copy 57 = .ok (.aload_n 1, 1) := by decide +kernel
theorem dX10_copy_58 : decode cX10_copy 58 = .ok (.getfield 69, 3) := by decide +kernel
theorem dX10_copy_61 : decode cX10_copy 61 = .ok (.putfield 69, 3) := by decide +kernel
theorem dX10_copy_64 : decode cX10_copy 64 = .ok (.aload_n 1, 1) := by decide +kernel
theorem dX10_copy_65 : decode cX10_copy 65 = .ok (.getfield 9, 3) := by decide +kernel
theorem dX10_copy_68 : decode cX10_copy 68 = .ok (.iconst 0, 1) := by decide +kernel
theorem dX10_copy_69 : decode cX10_copy 69 = .ok (.aload_n 0, 1) := by decide +kernel
theorem dX10_copy_70 : decode cX10_copy 70 = .ok (.getfield 9, 3) := by decide +kernel
theorem dX10_copy_73 : decode cX10_copy 73 = .ok (.iconst 0, 1) := by decide +kernel
theorem dX10_copy_74 : decode cX10_copy 74 = .ok (.aload_n 0, 1) := by decide +kernel
theorem dX10_copy_75 : decode cX10_copy 75 = .ok (.getfield 9, 3) := by decide +kernel
theorem dX10_copy_78 : decode cX10_copy 78 = .ok (.arraylength, 1) := by decide +kernel
theorem dX10_copy_79 : decode cX10_copy 79 = .ok (.invokestatic 72, 3) := by decide +kernel
theorem dX10_copy_82 : decode cX10_copy 82 = .ok (.aload_n 1, 1) := by decide +kernel
theorem dX10_copy_83 : decode cX10_copy 83 = .ok (.getfield 15, 3) := by decide +kernel
theorem dX10_copy_86 : decode cX10_copy 86 = .ok (.iconst 0, 1) := by decide +kernel
theorem dX10_copy_87 : decode cX10_copy 87 = .ok (.aload_n 0, 1) := by decide +kernel
theorem dX10_copy_88 : decode cX10_copy 88 = .ok (.getfield 15, 3) := by decide +kernel
theorem dX10_copy_91 : decode cX10_copy 91 = .ok (.iconst 0, 1) := by decide +kernel
theorem dX10_copy_92 : decode cX10_copy 92 = .ok (.aload_n 0, 1) := by decide +kernel
theorem dX10_copy_93 : decode cX10_copy 93 = .ok (.getfield 15, 3) := by decide +kernel
theorem dX10_copy_96 : decode cX10_copy 96 = .ok (.arraylength, 1) := by decide +kernel
theorem dX10_copy_97 : decode cX10_copy 97 = .ok (.invokestatic 72, 3) := by decide +kernel
theorem dX10_copy_100 : decode cX10_copy 100 = .ok (.aload_n 1, 1) := by decide +kernel
theorem dX10_copy_101 : decode cX10_copy 101 = .ok (.getfield 18, 3) := by decide +kernel
theorem dX10_copy_104 : decode cX10_copy 104 = .ok (.iconst 0, 1) := by decide +kernel
theorem dX10_copy_105 : decode cX10_copy 105 = .ok (.aload_n 0, 1) := by decide +kernel
theorem dX10_copy_106 : decode cX10_copy 106 = .ok (.getfield 18, 3) := by decide +kernel
theorem dX10_copy_109 : decode cX10_copy 109 = .ok (.iconst 0, 1) := by decide +kernel
theorem dX10_copy_110 : decode cX10_copy 110 = .ok (.aload_n 0, 1) := by decide +kernel
theorem dX10_copy_111 : decode cX10_copy 111 = .ok (.getfield 18, 3) := by decide +kernel
theorem dX10_copy_114 : decode cX10_copy 114 = .ok (.arraylength, 1) := by decide +kernel
theorem dX10_copy_115 : decode cX10_copy 115 = .ok (.invokestatic 72, 3) := by decide +kernel
theorem dX10_copy_118 : decode cX10_copy 118 = .ok (.aload_n 1, 1) := by decide +kernel
theorem dX10_copy_119 : decode cX10_copy 119 = .ok (.getfield 27, 3) := by decide +kernel
theorem dX10_copy_122 : decode cX10_copy 122 = .ok (.iconst 0, 1) := by decide +kernel
theorem dX10_copy_123 : decode cX10_copy 123 = .ok (.aload_n 0, 1) := by decide +kernel
theorem dX10_copy_124 : decode cX10_copy 124 = .ok (.getfield 27, 3) := by decide +kernel
theorem dX10_copy_127 : decode cX10_copy 127 = .ok (.iconst 0, 1) := by decide +kernel
theorem dX10_copy_128 : decode cX10_copy 128 = .ok (.aload_n 0, 1) := by decide +kernel
theorem dX10_copy_129 : decode cX10_copy 129 = .ok (.getfield 27, 3) := by decide +kernel
theorem dX10_copy_132 : decode cX10_copy 132 = .ok (.arraylength, 1) := by decide +kernel
theorem dX10_copy_133 : decode cX10_copy 133 = .ok (.invokestatic 72, 3) := by decide +kernel
theorem dX10_copy_136 : decode cX10_copy 136 = .ok (.aload_n 1, 1) := by decide +kernel
theorem dX10_copy_137 : decode cX10_copy 137 = .ok (.getfield 30, 3) := by decide +kernel
theorem dX10_copy_140 : decode cX10_copy 140 = .ok (.iconst 0, 1) := by decide +kernel
theorem dX10_copy_141 : decode cX10_copy 141 = .ok (.aload_n 0, 1) := by decide +kernel
theorem dX10_copy_142 : decode cX10_copy 142 = .ok (.getfield 30, 3) := by decide +kernel
theorem dX10_copy_145 : decode cX10_copy 145 = .ok (.iconst 0, 1) := by decide +kernel
theorem dX10_copy_146 : decode cX10_copy 146 = .ok (.aload_n 0, 1) := by decide +kernel
theorem dX10_copy_147 : decode cX10_copy 147 = .ok (.getfield 30, 3) := by decide +kernel
theorem dX10_copy_150 : decode cX10_copy 150 = .ok (.arraylength, 1) := by decide +kernel
theorem dX10_copy_151 : decode cX10_copy 151 = .ok (.invokestatic 72, 3) := by decide +kernel
theorem dX10_copy_154 : decode cX10_copy 154 = .ok (.iconst 0, 1) := by decide +kernel
theorem dX10_copy_155 : decode cX10_copy 155 = .ok (.istore_n 2, 1) := by decide +kernel
theorem dX10_copy_156 : decode cX10_copy 156 = .ok (.iload_n 2, 1) := by decide +kernel
theorem dX10_copy_157 : decode cX10_copy 157 = .ok (.bipush 8, 2) := by decide +kernel
theorem dX10_copy_159 : decode cX10_copy 159 = .ok (.if_icmp .ge 24, 3) := by decide +kernel
theorem dX10_copy_162 : decode cX10_copy 162 = .ok (.aload_n 0, 1) := by decide +kernel
theorem dX10_copy_163 : decode cX10_copy 163 = .ok (.getfield 23, 3) := by decide +kernel
theorem dX10_copy_166 : decode cX10_copy 166 = .ok (.iload_n 2, 1) := by decide +kernel
theorem dX10_copy_167 : decode cX10_copy 167 = .ok (.aaload, 1) := by decide +kernel
theorem dX10_copy_168 : decode cX10_copy 168 = .ok (.aload_n 1, 1) := by decide +kernel
theorem dX10_copy_169 : decode cX10_copy 169 = .ok (.getfield 23, 3) := by decide +kernel
theorem dX10_copy_172 : decode cX10_copy 172 = .ok (.iload_n 2, 1) := by decide +kernel
theorem dX10_copy_173 : decode cX10_copy 173 = .ok (.aaload, 1) := by decide +kernel
theorem dX10_copy_174 : decode cX10_copy 174 = .ok (.invokevirtual 78, 3) := by decide +kernel
theorem dX10_copy_177 : decode cX10_copy 177 = .ok (.iinc 2 1, 3) := by decide +kernel
theorem dX10_copy_180 : decode cX10_copy 180 = .ok (.goto (-24), 3) := by decide +kernel
theorem dX10_copy_183 : decode cX10_copy 183 = .ok (.aload_n 0, 1) := by decide +kernel
theorem dX10_copy_184 : decode cX10_copy 184 = .ok (.getfield 36, 3) := by decide +kernel
theorem dX10_copy_187 : decode cX10_copy 187 = .ok (.aload_n 1, 1) := by decide +kernel
theorem dX10_copy_188 : decode cX10_copy 188 = .ok (.getfield 36, 3) := by decide +kernel
theorem dX10_copy_191 : decode cX10_copy 191 = .ok (.invokevirtual 82, 3) := by decide +kernel
theorem dX10_copy_194 : decode cX10_copy 194 = .ok (.aload_n 0, 1) := by decide +kernel
theorem dX10_copy_195 : decode cX10_copy 195 = .ok (.getfield 40, 3) := by decide +kernel
theorem dX10_copy_198 : decode cX10_copy 198 = .ok (.aload_n 1, 1) := by decide +kernel
theorem dX10_copy_199 : decode cX10_copy 199 = .ok (.getfield 40, 3) := by decide +kernel
theorem dX10_copy_202 : decode cX10_copy 202 = .ok (.invokevirtual 82, 3) := by decide +kernel
theorem dX10_copy_205 : decode cX10_copy 205 = .ok (.aload_n 0, 1) := by decide +kernel
theorem dX10_copy_206 : decode cX10_copy 206 = .ok (.getfield 43, 3) := by decide +kernel
theorem dX10_copy_209 : decode cX10_copy 209 = .ok (.aload_n 1, 1) := by decide +kernel
theorem dX10_copy_210 : decode cX10_copy 210 = .ok (.getfield 43, 3) := by decide +kernel
theorem dX10_copy_213 : decode cX10_copy 213 = .ok (.invokevirtual 82, 3) := by decide +kernel
theorem dX10_copy_216 : decode cX10_copy 216 = .ok (.return_, 1) := by decide +kernel
theorem dX10_addSpear_0 : decode cX10_addSpear 0 = .ok (.aload_n 0, 1) := by decide +kernel
theorem dX10_addSpear_1 : decode cX10_addSpear 1 = .ok (.getfield 60, 3) := by decide +kernel
theorem dX10_addSpear_4 : decode cX10_addSpear 4 = .ok (.bipush 6, 2) := by decide +kernel
theorem dX10_addSpear_6 : decode cX10_addSpear 6 = .ok (.if_icmp .lt 5, 3) := by decide +kernel
theorem dX10_addSpear_9 : decode cX10_addSpear 9 = .ok (.iconst (-1), 1) := by decide +kernel
theorem dX10_addSpear_10 : decode cX10_addSpear 10 = .ok (.ireturn, 1) := by decide +kernel
theorem dX10_addSpear_11 : decode cX10_addSpear 11 = .ok (.aload_n 0, 1) := by decide +kernel
theorem dX10_addSpear_12 : decode cX10_addSpear 12 = .ok (.getfield 15, 3) := by decide +kernel
theorem dX10_addSpear_15 : decode cX10_addSpear 15 = .ok (.aload_n 0, 1) := by decide +kernel
theorem dX10_addSpear_16 : decode cX10_addSpear 16 = .ok (.getfield 60, 3) := by decide +kernel
theorem dX10_addSpear_19 : decode cX10_addSpear 19 = .ok (.iload_n 1, 1) := by decide +kernel
theorem dX10_addSpear_20 : decode cX10_addSpear 20 = .ok (.iastore, 1) := by decide +kernel
theorem dX10_addSpear_21 : decode cX10_addSpear 21 = .ok (.aload_n 0, 1) := by decide +kernel
theorem dX10_addSpear_22 : decode cX10_addSpear 22 = .ok (.getfield 18, 3) := by decide +kernel
theorem dX10_addSpear_25 : decode cX10_addSpear 25 = .ok (.aload_n 0, 1) := by decide +kernel
theorem dX10_addSpear_26 : decode cX10_addSpear 26 = .ok (.getfield 60, 3) := by decide +kernel
theorem dX10_addSpear_29 : decode cX10_addSpear 29 = .ok (.iload_n 2, 1) := by decide +kernel
theorem dX10_addSpear_30 : decode cX10_addSpear 30 = .ok (.iastore, 1) := by decide +kernel
theorem dX10_addSpear_31 : decode cX10_addSpear 31 = .ok (.aload_n 0, 1) := by decide +kernel
theorem dX10_addSpear_32 : decode cX10_addSpear 32 = .ok (.dup, 1) := by decide +kernel
theorem dX10_addSpear_33 : decode cX10_addSpear 33 = .ok (.getfield 60, 3) := by decide +kernel
theorem dX10_addSpear_36 : decode cX10_addSpear 36 = .ok (.iconst 1, 1) := by decide +kernel
theorem dX10_addSpear_37 : decode cX10_addSpear 37 = .ok (.iadd, 1) := by decide +kernel
theorem dX10_addSpear_38 : decode cX10_addSpear 38 = .ok (.putfield 60, 3) := by decide +kernel
theorem dX10_addSpear_41 : decode cX10_addSpear 41 = .ok (.aload_n 0, 1) := by decide +kernel
theorem dX10_addSpear_42 : decode cX10_addSpear 42 = .ok (.getfield 60, 3) := by decide +kernel
theorem dX10_addSpear_45 : decode cX10_addSpear 45 = .ok (.iconst 1, 1) := by decide +kernel
theorem dX10_addSpear_46 : decode cX10_addSpear 46 = .ok (.isub, 1) := by decide +kernel
theorem dX10_addSpear_47 : decode cX10_addSpear 47 = .ok (.ireturn, 1) := by decide +kernel
theorem dX10_addThrower_0 : decode cX10_addThrower 0 = .ok (.aload_n 0, 1) := by decide +kernel
theorem dX10_addThrower_1 : decode cX10_addThrower 1 = .ok (.getfield 63, 3) := by decide +kernel
theorem dX10_addThrower_4 : decode cX10_addThrower 4 = .ok (.bipush 8, 2) := by decide +kernel
theorem dX10_addThrower_6 : decode cX10_addThrower 6 = .ok (.if_icmp .lt 5, 3) := by decide +kernel
theorem dX10_addThrower_9 : decode cX10_addThrower 9 = .ok (.iconst (-1), 1) := by decide +kernel
theorem dX10_addThrower_10 : decode cX10_addThrower 10 = .ok (.ireturn, 1) := by decide +kernel
theorem dX10_addThrower_11 : decode cX10_addThrower 11 = .ok (.aload_n 0, 1) := by decide +kernel
theorem dX10_addThrower_12 : decode cX10_addThrower 12 = .ok (.getfield 23, 3) := by decide +kernel
theorem dX10_addThrower_15 : decode cX10_addThrower 15 = .ok (.aload_n 0, 1) := by decide +kernel
theorem dX10_addThrower_16 : decode cX10_addThrower 16 = .ok (.getfield 63, 3) := by decide +kernel
theorem dX10_addThrower_19 : decode cX10_addThrower 19 = .ok (.aaload, 1) := by decide +kernel
theorem dX10_addThrower_20 : decode cX10_addThrower 20 = .ok (.iload_n 1, 1) := by decide +kernel
theorem dX10_addThrower_21 : decode cX10_addThrower 21 = .ok (.invokevirtual 85, 3) := by decide +kernel
theorem dX10_addThrower_24 : decode cX10_addThrower 24 = .ok (.aload_n 0, 1) := by decide +kernel
theorem dX10_addThrower_25 : decode cX10_addThrower 25 = .ok (.dup, 1) := by decide +kernel
theorem dX10_addThrower_26 : decode cX10_addThrower 26 = .ok (.getfield 63, 3) := by decide +kernel
theorem dX10_addThrower_29 : decode cX10_addThrower 29 = .ok (.iconst 1, 1) := by decide +kernel
theorem dX10_addThrower_30 : decode cX10_addThrower 30 = .ok (.iadd, 1) := by decide +kernel
theorem dX10_addThrower_31 : decode cX10_addThrower 31 = .ok (.putfield 63, 3) := by decide +kernel
theorem dX10_addThrower_34 : decode cX10_addThrower 34 = .ok (.aload_n 0, 1) := by decide +kernel
theorem dX10_addThrower_35 : decode cX10_addThrower 35 = .ok (.getfield 63, 3) := by decide +kernel
theorem dX10_addThrower_38 : decode cX10_addThrower 38 = .ok (.iconst 1, 1) := by decide +kernel
theorem dX10_addThrower_39 : decode cX10_addThrower 39 = .ok (.isub, 1) := by decide +kernel
theorem dX10_addThrower_40 : decode cX10_addThrower 40 = .ok (.ireturn, 1) := by decide +kernel
theorem dX10_tell_0 : decode cX10_tell 0 = .ok (.iload_n 1, 1) := by decide +kernel
theorem dX10_tell_1 : decode cX10_tell 1 = .ok (.iconst 1, 1) := by decide +kernel
theorem dX10_tell_2 : decode cX10_tell 2 = .ok (.if_icmp .gt 14, 3) := by decide +kernel
theorem dX10_tell_5 : decode cX10_tell 5 = .ok (.iload_n 2, 1) := by decide +kernel
theorem dX10_tell_6 : decode cX10_tell 6 = .ok (.bipush (-20), 2) := by decide +kernel
theorem dX10_tell_8 : decode cX10_tell 8 = .ok (.bipush 20, 2) := by decide +kernel
theorem dX10_tell_10 : decode cX10_tell 10 = .ok (.invokestatic 89, 3) := by decide +kernel
theorem dX10_tell_13 : decode cX10_tell 13 = .ok (.goto 25, 3) := by decide +kernel
theorem dX10_tell_16 : decode cX10_tell 16 = .ok (.iload_n 1, 1) := by decide +kernel
theorem dX10_tell_17 : decode cX10_tell 17 = .ok (.iconst 3, 1) := by decide +kernel
theorem dX10_tell_18 : decode cX10_tell 18 = .ok (.if_icmp .gt 13, 3) := by decide +kernel
theorem dX10_tell_21 : decode cX10_tell 21 = .ok (.iload_n 2, 1) := by decide +kernel
theorem dX10_tell_22 : decode cX10_tell 22 = .ok (.iconst 0, 1) := by decide +kernel
theorem dX10_tell_23 : decode cX10_tell 23 = .ok (.bipush 9, 2) := by decide +kernel
theorem dX10_tell_25 : decode cX10_tell 25 = .ok (.invokestatic 89, 3) := by decide +kernel
theorem dX10_tell_28 : decode cX10_tell 28 = .ok (.goto 10, 3) := by decide +kernel
theorem dX10_tell_31 : decode cX10_tell 31 = .ok (.iload_n 2, 1) := by decide +kernel
theorem dX10_tell_32 : decode cX10_tell 32 = .ok (.iconst 1, 1) := by decide +kernel
theorem dX10_tell_33 : decode cX10_tell 33 = .ok (.bipush 20, 2) := by decide +kernel
theorem dX10_tell_35 : decode cX10_tell 35 = .ok (.invokestatic 89, 3) := by decide +kernel
theorem dX10_tell_38 : decode cX10_tell 38 = .ok (.istore_n 3, 1) := by decide +kernel
theorem dX10_tell_39 : decode cX10_tell 39 = .ok (.iload_n 3, 1) := by decide +kernel
theorem dX10_tell_40 : decode cX10_tell 40 = .ok (.ifCond .eq 12, 3) := by decide +kernel
theorem dX10_tell_43 : decode cX10_tell 43 = .ok (.iload_n 1, 1) := by decide +kernel
theorem dX10_tell_44 : decode cX10_tell 44 = .ok (.iconst 0, 1) := by decide +kernel
theorem dX10_tell_45 : decode cX10_tell 45 = .ok (.iconst 4, 1) := by decide +kernel
theorem dX10_tell_46 : decode cX10_tell 46 = .ok (.invokestatic 89, 3) := by decide +kernel
theorem dX10_tell_49 : decode cX10_tell 49 = .ok (.ifCond .ne 5, 3) := by decide +kernel
theorem dX10_tell_52 : decode cX10_tell 52 = .ok (.iconst 0, 1) := by decide +kernel
theorem dX10_tell_53 : decode cX10_tell 53 = .ok (.ireturn, 1) := by decide +kernel
theorem dX10_tell_54 : decode cX10_tell 54 = .ok (.aload_n 0, 1) := by decide +kernel
theorem dX10_tell_55 : decode cX10_tell 55 = .ok (.getfield 9, 3) := by decide +kernel
theorem dX10_tell_58 : decode cX10_tell 58 = .ok (.iload_n 1, 1) := by decide +kernel
theorem dX10_tell_59 : decode cX10_tell 59 = .ok (.iload_n 2, 1) := by decide +kernel
theorem dX10_tell_60 : decode cX10_tell 60 = .ok (.iastore, 1) := by decide +kernel
theorem dX10_tell_61 : decode cX10_tell 61 = .ok (.iconst 1, 1) := by decide +kernel
theorem dX10_tell_62 : decode cX10_tell 62 = .ok (.ireturn, 1) := by decide +kernel
theorem dX10_hasSpear_0 : decode cX10_hasSpear 0 = .ok (.iload_n 1, 1) := by decide +kernel
theorem dX10_hasSpear_1 : decode cX10_hasSpear 1 = .ok (.ifCond .lt 21, 3) := by decide +kernel
theorem dX10_hasSpear_4 : decode cX10_hasSpear 4 = .ok (.iload_n 1, 1) := by decide +kernel
theorem dX10_hasSpear_5 : decode cX10_hasSpear 5 = .ok (.aload_n 0, 1) := by decide +kernel
theorem dX10_hasSpear_6 : decode cX10_hasSpear 6 = .ok (.getfield 60, 3) := by decide +kernel
theorem dX10_hasSpear_9 : decode cX10_hasSpear 9 = .ok (.if_icmp .ge 13, 3) := by decide +kernel
theorem dX10_hasSpear_12 : decode cX10_hasSpear 12 = .ok (.iload_n 1, 1) := by decide +kernel
theorem dX10_hasSpear_13 : decode cX10_hasSpear 13 = .ok (.bipush 6, 2) := by decide +kernel
theorem dX10_hasSpear_15 : decode cX10_hasSpear 15 = .ok (.if_icmp .ge 7, 3) := by decide +kernel
theorem dX10_hasSpear_18 : decode cX10_hasSpear 18 = .ok (.iconst 1, 1) := by decide +kernel
theorem dX10_hasSpear_19 : decode cX10_hasSpear 19 = .ok (.goto 4, 3) := by decide +kernel
theorem dX10_hasSpear_22 : decode cX10_hasSpear 22 = .ok (.iconst 0, 1) := by decide +kernel
theorem dX10_hasSpear_23 : decode cX10_hasSpear 23 = .ok (.ireturn, 1) := by decide +kernel
theorem dX10_hasLine_0 : decode cX10_hasLine 0 = .ok (.iload_n 1, 1) := by decide +kernel
theorem dX10_hasLine_1 : decode cX10_hasLine 1 = .ok (.ifCond .lt 21, 3) := by decide +kernel
theorem dX10_hasLine_4 : decode cX10_hasLine 4 = .ok (.iload_n 1, 1) := by decide +kernel
theorem dX10_hasLine_5 : decode cX10_hasLine 5 = .ok (.aload_n 0, 1) := by decide +kernel
theorem dX10_hasLine_6 : decode cX10_hasLine 6 = .ok (.getfield 66, 3) := by decide +kernel
theorem dX10_hasLine_9 : decode cX10_hasLine 9 = .ok (.if_icmp .ge 13, 3) := by decide +kernel
theorem dX10_hasLine_12 : decode cX10_hasLine 12 = .ok (.iload_n 1, 1) := by decide +kernel
theorem dX10_hasLine_13 : decode cX10_hasLine 13 = .ok (.bipush 100, 2) := by decide +kernel
theorem dX10_hasLine_15 : decode cX10_hasLine 15 = .ok (.if_icmp .ge 7, 3) := by decide +kernel
theorem dX10_hasLine_18 : decode cX10_hasLine 18 = .ok (.iconst 1, 1) := by decide +kernel
theorem dX10_hasLine_19 : decode cX10_hasLine 19 = .ok (.goto 4, 3) := by decide +kernel
theorem dX10_hasLine_22 : decode cX10_hasLine 22 = .ok (.iconst 0, 1) := by decide +kernel
theorem dX10_hasLine_23 : decode cX10_hasLine 23 = .ok (.ireturn, 1) := by decide +kernel
theorem dX10_one_0 : decode cX10_one 0 = .ok (.iload_n 1, 1) := by decide +kernel
theorem dX10_one_1 : decode cX10_one 1 = .ok (.ifCond .lt 26, 3) := by decide +kernel
theorem dX10_one_4 : decode cX10_one 4 = .ok (.iload_n 1, 1) := by decide +kernel
theorem dX10_one_5 : decode cX10_one 5 = .ok (.aload_n 0, 1) := by decide +kernel
theorem dX10_one_6 : decode cX10_one 6 = .ok (.getfield 63, 3) := by decide +kernel
theorem dX10_one_9 : decode cX10_one 9 = .ok (.if_icmp .ge 18, 3) := by decide +kernel
theorem dX10_one_12 : decode cX10_one 12 = .ok (.iload_n 1, 1) := by decide +kernel
theorem dX10_one_13 : decode cX10_one 13 = .ok (.bipush 8, 2) := by decide +kernel
theorem dX10_one_15 : decode cX10_one 15 = .ok (.if_icmp .ge 12, 3) := by decide +kernel
theorem dX10_one_18 : decode cX10_one 18 = .ok (.aload_n 0, 1) := by decide +kernel
theorem dX10_one_19 : decode cX10_one 19 = .ok (.getfield 23, 3) := by decide +kernel
theorem dX10_one_22 : decode cX10_one 22 = .ok (.iload_n 1, 1) := by decide +kernel
theorem dX10_one_23 : decode cX10_one 23 = .ok (.aaload, 1) := by decide +kernel
theorem dX10_one_24 : decode cX10_one 24 = .ok (.goto 4, 3) := by decide +kernel
theorem dX10_one_27 : decode cX10_one 27 = .ok (.aconst_null, 1) := by decide +kernel
theorem dX10_one_28 : decode cX10_one 28 = .ok (.areturn, 1) := by decide +kernel
theorem dX10_whose_0 : decode cX10_whose 0 = .ok (.aload_n 0, 1) := by decide +kernel
theorem dX10_whose_1 : decode cX10_whose 1 = .ok (.getfield 54, 3) := by decide +kernel
theorem dX10_whose_4 : decode cX10_whose 4 = .ok (.bipush 6, 2) := by decide +kernel
theorem dX10_whose_6 : decode cX10_whose 6 = .ok (.if_icmp .ge 14, 3) := by decide +kernel
theorem dX10_whose_9 : decode cX10_whose 9 = .ok (.aload_n 0, 1) := by decide +kernel
theorem dX10_whose_10 : decode cX10_whose 10 = .ok (.aload_n 0, 1) := by decide +kernel
theorem dX10_whose_11 : decode cX10_whose 11 = .ok (.getfield 57, 3) := by decide +kernel
theorem dX10_whose_14 : decode cX10_whose 14 = .ok (.invokevirtual 93, 3) := by decide +kernel
theorem dX10_whose_17 : decode cX10_whose 17 = .ok (.goto 4, 3) := by decide +kernel
theorem dX10_whose_20 : decode cX10_whose 20 = .ok (.aconst_null, 1) := by decide +kernel
theorem dX10_whose_21 : decode cX10_whose 21 = .ok (.areturn, 1) := by decide +kernel
theorem dX10_begun_0 : decode cX10_begun 0 = .ok (.aload_n 0, 1) := by decide +kernel
theorem dX10_begun_1 : decode cX10_begun 1 = .ok (.getfield 54, 3) := by decide +kernel
theorem dX10_begun_4 : decode cX10_begun 4 = .ok (.ifCond .gt 10, 3) := by decide +kernel
theorem dX10_begun_7 : decode cX10_begun 7 = .ok (.aload_n 0, 1) := by decide +kernel
theorem dX10_begun_8 : decode cX10_begun 8 = .ok (.getfield 57, 3) := by decide +kernel
theorem dX10_begun_11 : decode cX10_begun 11 = .ok (.ifCond .le 7, 3) := by decide +kernel
theorem dX10_begun_14 : decode cX10_begun 14 = .ok (.iconst 1, 1) := by decide +kernel
theorem dX10_begun_15 : decode cX10_begun 15 = .ok (.goto 4, 3) := by decide +kernel
theorem dX10_begun_18 : decode cX10_begun 18 = .ok (.iconst 0, 1) := by decide +kernel
theorem dX10_begun_19 : decode cX10_begun 19 = .ok (.ireturn, 1) := by decide +kernel
theorem dX10_nextTurn_0 : decode cX10_nextTurn 0 = .ok (.aload_n 0, 1) := by decide +kernel
theorem dX10_nextTurn_1 : decode cX10_nextTurn 1 = .ok (.dup, 1) := by decide +kernel
theorem dX10_nextTurn_2 : decode cX10_nextTurn 2 = .ok (.getfield 57, 3) := by decide +kernel
theorem dX10_nextTurn_5 : decode cX10_nextTurn 5 = .ok (.iconst 1, 1) := by decide +kernel
theorem dX10_nextTurn_6 : decode cX10_nextTurn 6 = .ok (.iadd, 1) := by decide +kernel
theorem dX10_nextTurn_7 : decode cX10_nextTurn 7 = .ok (.putfield 57, 3) := by decide +kernel
theorem dX10_nextTurn_10 : decode cX10_nextTurn 10 = .ok (.aload_n 0, 1) := by decide +kernel
theorem dX10_nextTurn_11 : decode cX10_nextTurn 11 = .ok (.getfield 57, 3) := by decide +kernel
theorem dX10_nextTurn_14 : decode cX10_nextTurn 14 = .ok (.aload_n 0, 1) := by decide +kernel
theorem dX10_nextTurn_15 : decode cX10_nextTurn 15 = .ok (.getfield 63, 3) := by decide +kernel
theorem dX10_nextTurn_18 : decode cX10_nextTurn 18 = .ok (.if_icmp .lt 18, 3) := by decide +kernel
theorem dX10_nextTurn_21 : decode cX10_nextTurn 21 = .ok (.aload_n 0, 1) := by decide +kernel
theorem dX10_nextTurn_22 : decode cX10_nextTurn 22 = .ok (.iconst 0, 1) := by decide +kernel
theorem dX10_nextTurn_23 : decode cX10_nextTurn 23 = .ok (.putfield 57, 3) := by decide +kernel
theorem dX10_nextTurn_26 : decode cX10_nextTurn 26 = .ok (.aload_n 0, 1) := by decide +kernel
theorem dX10_nextTurn_27 : decode cX10_nextTurn 27 = .ok (.dup, 1) := by decide +kernel
theorem dX10_nextTurn_28 : decode cX10_nextTurn 28 = .ok (.getfield 54, 3) := by decide +kernel
theorem dX10_nextTurn_31 : decode cX10_nextTurn 31 = .ok (.iconst 1, 1) := by decide +kernel
theorem dX10_nextTurn_32 : decode cX10_nextTurn 32 = .ok (.iadd, 1) := by decide +kernel
theorem dX10_nextTurn_33 : decode cX10_nextTurn 33 = .ok (.putfield 54, 3) := by decide +kernel
theorem dX10_nextTurn_36 : decode cX10_nextTurn 36 = .ok (.return_, 1) := by decide +kernel
theorem dX10_beginMeet_0 : decode cX10_beginMeet 0 = .ok (.aload_n 0, 1) := by decide +kernel
theorem dX10_beginMeet_1 : decode cX10_beginMeet 1 = .ok (.iconst 0, 1) := by decide +kernel
theorem dX10_beginMeet_2 : decode cX10_beginMeet 2 = .ok (.putfield 54, 3) := by decide +kernel
theorem dX10_beginMeet_5 : decode cX10_beginMeet 5 = .ok (.aload_n 0, 1) := by decide +kernel
theorem dX10_beginMeet_6 : decode cX10_beginMeet 6 = .ok (.iconst 0, 1) := by decide +kernel
theorem dX10_beginMeet_7 : decode cX10_beginMeet 7 = .ok (.putfield 57, 3) := by decide +kernel
theorem dX10_beginMeet_10 : decode cX10_beginMeet 10 = .ok (.iconst 0, 1) := by decide +kernel
theorem dX10_beginMeet_11 : decode cX10_beginMeet 11 = .ok (.istore_n 1, 1) := by decide +kernel
theorem dX10_beginMeet_12 : decode cX10_beginMeet 12 = .ok (.iload_n 1, 1) := by decide +kernel
theorem dX10_beginMeet_13 : decode cX10_beginMeet 13 = .ok (.aload_n 0, 1) := by decide +kernel
theorem dX10_beginMeet_14 : decode cX10_beginMeet 14 = .ok (.getfield 63, 3) := by decide +kernel
theorem dX10_beginMeet_17 : decode cX10_beginMeet 17 = .ok (.if_icmp .ge 24, 3) := by decide +kernel
theorem dX10_beginMeet_20 : decode cX10_beginMeet 20 = .ok (.iload_n 1, 1) := by decide +kernel
theorem dX10_beginMeet_21 : decode cX10_beginMeet 21 = .ok (.bipush 8, 2) := by decide +kernel
theorem dX10_beginMeet_23 : decode cX10_beginMeet 23 = .ok (.if_icmp .ge 18, 3) := by decide +kernel
theorem dX10_beginMeet_26 : decode cX10_beginMeet 26 = .ok (.aload_n 0, 1) := by decide +kernel
theorem dX10_beginMeet_27 : decode cX10_beginMeet 27 = .ok (.getfield 23, 3) := by decide +kernel
theorem dX10_beginMeet_30 : decode cX10_beginMeet 30 = .ok (.iload_n 1, 1) := by decide +kernel
theorem dX10_beginMeet_31 : decode cX10_beginMeet 31 = .ok (.aaload, 1) := by decide +kernel
theorem dX10_beginMeet_32 : decode cX10_beginMeet 32 = .ok (.invokevirtual 97, 3) := by decide +kernel
theorem dX10_beginMeet_35 : decode cX10_beginMeet 35 = .ok (.iinc 1 1, 3) := by decide +kernel
theorem dX10_beginMeet_38 : decode cX10_beginMeet 38 = .ok (.goto (-26), 3) := by decide +kernel
theorem dX10_beginMeet_41 : decode cX10_beginMeet 41 = .ok (.return_, 1) := by decide +kernel
theorem dX10_draw_0 : decode cX10_draw 0 = .ok (.aload_n 0, 1) := by decide +kernel
theorem dX10_draw_1 : decode cX10_draw 1 = .ok (.aload_n 0, 1) := by decide +kernel
theorem dX10_draw_2 : decode cX10_draw 2 = .ok (.getfield 47, 3) := by decide +kernel
theorem dX10_draw_5 : decode cX10_draw 5 = .ok (.ldc 100, 2) := by decide +kernel
theorem dX10_draw_7 : decode cX10_draw 7 = .ok (.imul, 1) := by decide +kernel
theorem dX10_draw_8 : decode cX10_draw 8 = .ok (.ldc 101, 2) := by decide +kernel
theorem dX10_draw_10 : decode cX10_draw 10 = .ok (.iadd, 1) := by decide +kernel
theorem dX10_draw_11 : decode cX10_draw 11 = .ok (.putfield 47, 3) := by decide +kernel
theorem dX10_draw_14 : decode cX10_draw 14 = .ok (.iload_n 1, 1) := by decide +kernel
theorem dX10_draw_15 : decode cX10_draw 15 = .ok (.ifCond .le 15, 3) := by decide +kernel
theorem dX10_draw_18 : decode cX10_draw 18 = .ok (.aload_n 0, 1) := by decide +kernel
theorem dX10_draw_19 : decode cX10_draw 19 = .ok (.getfield 47, 3) := by decide +kernel
theorem dX10_draw_22 : decode cX10_draw 22 = .ok (.bipush 8, 2) := by decide +kernel
theorem dX10_draw_24 : decode cX10_draw 24 = .ok (.iushr, 1) := by decide +kernel
theorem dX10_draw_25 : decode cX10_draw 25 = .ok (.iload_n 1, 1) := by decide +kernel
theorem dX10_draw_26 : decode cX10_draw 26 = .ok (.irem, 1) := by decide +kernel
theorem dX10_draw_27 : decode cX10_draw 27 = .ok (.goto 4, 3) := by decide +kernel
theorem dX10_draw_30 : decode cX10_draw 30 = .ok (.iconst 0, 1) := by decide +kernel
theorem dX10_draw_31 : decode cX10_draw 31 = .ok (.ireturn, 1) := by decide +kernel
theorem dX10_swing_0 : decode cX10_swing 0 = .ok (.iload_n 1, 1) := by decide +kernel
theorem dX10_swing_1 : decode cX10_swing 1 = .ok (.ifCond .le 17, 3) := by decide +kernel
theorem dX10_swing_4 : decode cX10_swing 4 = .ok (.aload_n 0, 1) := by decide +kernel
theorem dX10_swing_5 : decode cX10_swing 5 = .ok (.iconst 2, 1) := by decide +kernel
theorem dX10_swing_6 : decode cX10_swing 6 = .ok (.iload_n 1, 1) := by decide +kernel
theorem dX10_swing_7 : decode cX10_swing 7 = .ok (.imul, 1) := by decide +kernel
theorem dX10_swing_8 : decode cX10_swing 8 = .ok (.iconst 1, 1) := by decide +kernel
theorem dX10_swing_9 : decode cX10_swing 9 = .ok (.iadd, 1) := by decide +kernel
theorem dX10_swing_10 : decode cX10_swing 10 = .ok (.invokevirtual 102, 3) := by decide +kernel
theorem dX10_swing_13 : decode cX10_swing 13 = .ok (.iload_n 1, 1) := by decide +kernel
theorem dX10_swing_14 : decode cX10_swing 14 = .ok (.isub, 1) := by decide +kernel
theorem dX10_swing_15 : decode cX10_swing 15 = .ok (.goto 4, 3) := by decide +kernel
theorem dX10_swing_18 : decode cX10_swing 18 = .ok (.iconst 0, 1) := by decide +kernel
theorem dX10_swing_19 : decode cX10_swing 19 = .ok (.ireturn, 1) := by decide +kernel
theorem dX10_write_0 : decode cX10_write 0 = .ok (.aload_n 0, 1) := by decide +kernel
theorem dX10_write_1 : decode cX10_write 1 = .ok (.getfield 66, 3) := by decide +kernel
theorem dX10_write_4 : decode cX10_write 4 = .ok (.bipush 100, 2) := by decide +kernel
theorem dX10_write_6 : decode cX10_write 6 = .ok (.if_icmp .lt 4, 3) := by decide +kernel
theorem dX10_write_9 : decode cX10_write 9 = .ok (.return_, 1) := by decide +kernel
theorem dX10_write_10 : decode cX10_write 10 = .ok (.aload_n 0, 1) := by decide +kernel
theorem dX10_write_11 : decode cX10_write 11 = .ok (.getfield 66, 3) := by decide +kernel
theorem dX10_write_14 : decode cX10_write 14 = .ok (.bipush 9, 2) := by decide +kernel
theorem dX10_write_16 : decode cX10_write 16 = .ok (.imul, 1) := by decide +kernel
theorem dX10_write_17 : decode cX10_write 17 = .ok (.istore 7, 2) := by decide +kernel
theorem dX10_write_19 : decode cX10_write 19 = .ok (.aload_n 0, 1) := by decide +kernel
theorem dX10_write_20 : decode cX10_write 20 = .ok (.getfield 27, 3) := by decide +kernel
theorem dX10_write_23 : decode cX10_write 23 = .ok (.iload 7, 2) := by decide +kernel
theorem dX10_write_25 : decode cX10_write 25 = .ok (.iconst 0, 1) := by decide +kernel
theorem dX10_write_26 : decode cX10_write 26 = .ok (.iadd, 1) := by decide +kernel
theorem dX10_write_27 : decode cX10_write 27 = .ok (.aload_n 0, 1) := by decide +kernel
theorem dX10_write_28 : decode cX10_write 28 = .ok (.getfield 51, 3) := by decide +kernel
theorem dX10_write_31 : decode cX10_write 31 = .ok (.iastore, 1) := by decide +kernel
theorem dX10_write_32 : decode cX10_write 32 = .ok (.aload_n 0, 1) := by decide +kernel
theorem dX10_write_33 : decode cX10_write 33 = .ok (.getfield 27, 3) := by decide +kernel
theorem dX10_write_36 : decode cX10_write 36 = .ok (.iload 7, 2) := by decide +kernel
theorem dX10_write_38 : decode cX10_write 38 = .ok (.iconst 1, 1) := by decide +kernel
theorem dX10_write_39 : decode cX10_write 39 = .ok (.iadd, 1) := by decide +kernel
theorem dX10_write_40 : decode cX10_write 40 = .ok (.aload_n 0, 1) := by decide +kernel
theorem dX10_write_41 : decode cX10_write 41 = .ok (.getfield 54, 3) := by decide +kernel
theorem dX10_write_44 : decode cX10_write 44 = .ok (.iastore, 1) := by decide +kernel
theorem dX10_write_45 : decode cX10_write 45 = .ok (.aload_n 0, 1) := by decide +kernel
theorem dX10_write_46 : decode cX10_write 46 = .ok (.getfield 27, 3) := by decide +kernel
theorem dX10_write_49 : decode cX10_write 49 = .ok (.iload 7, 2) := by decide +kernel
theorem dX10_write_51 : decode cX10_write 51 = .ok (.iconst 2, 1) := by decide +kernel
theorem dX10_write_52 : decode cX10_write 52 = .ok (.iadd, 1) := by decide +kernel
theorem dX10_write_53 : decode cX10_write 53 = .ok (.aload_n 0, 1) := by decide +kernel
theorem dX10_write_54 : decode cX10_write 54 = .ok (.getfield 57, 3) := by decide +kernel
theorem dX10_write_57 : decode cX10_write 57 = .ok (.iastore, 1) := by decide +kernel
theorem dX10_write_58 : decode cX10_write 58 = .ok (.aload_n 0, 1) := by decide +kernel
theorem dX10_write_59 : decode cX10_write 59 = .ok (.getfield 27, 3) := by decide +kernel
theorem dX10_write_62 : decode cX10_write 62 = .ok (.iload 7, 2) := by decide +kernel
theorem dX10_write_64 : decode cX10_write 64 = .ok (.iconst 3, 1) := by decide +kernel
theorem dX10_write_65 : decode cX10_write 65 = .ok (.iadd, 1) := by decide +kernel
theorem dX10_write_66 : decode cX10_write 66 = .ok (.iload_n 1, 1) := by decide +kernel
theorem dX10_write_67 : decode cX10_write 67 = .ok (.iastore, 1) := by decide +kernel
theorem dX10_write_68 : decode cX10_write 68 = .ok (.aload_n 0, 1) := by decide +kernel
theorem dX10_write_69 : decode cX10_write 69 = .ok (.getfield 27, 3) := by decide +kernel
theorem dX10_write_72 : decode cX10_write 72 = .ok (.iload 7, 2) := by decide +kernel
theorem dX10_write_74 : decode cX10_write 74 = .ok (.iconst 4, 1) := by decide +kernel
theorem dX10_write_75 : decode cX10_write 75 = .ok (.iadd, 1) := by decide +kernel
theorem dX10_write_76 : decode cX10_write 76 = .ok (.iload_n 2, 1) := by decide +kernel
theorem dX10_write_77 : decode cX10_write 77 = .ok (.iastore, 1) := by decide +kernel
theorem dX10_write_78 : decode cX10_write 78 = .ok (.aload_n 0, 1) := by decide +kernel
theorem dX10_write_79 : decode cX10_write 79 = .ok (.getfield 27, 3) := by decide +kernel
theorem dX10_write_82 : decode cX10_write 82 = .ok (.iload 7, 2) := by decide +kernel
theorem dX10_write_84 : decode cX10_write 84 = .ok (.iconst 5, 1) := by decide +kernel
theorem dX10_write_85 : decode cX10_write 85 = .ok (.iadd, 1) := by decide +kernel
theorem dX10_write_86 : decode cX10_write 86 = .ok (.iload_n 3, 1) := by decide +kernel
theorem dX10_write_87 : decode cX10_write 87 = .ok (.iastore, 1) := by decide +kernel
theorem dX10_write_88 : decode cX10_write 88 = .ok (.aload_n 0, 1) := by decide +kernel
theorem dX10_write_89 : decode cX10_write 89 = .ok (.getfield 27, 3) := by decide +kernel
theorem dX10_write_92 : decode cX10_write 92 = .ok (.iload 7, 2) := by decide +kernel
theorem dX10_write_94 : decode cX10_write 94 = .ok (.bipush 6, 2) := by decide +kernel
theorem dX10_write_96 : decode cX10_write 96 = .ok (.iadd, 1) := by decide +kernel
theorem dX10_write_97 : decode cX10_write 97 = .ok (.iload 4, 2) := by decide +kernel
theorem dX10_write_99 : decode cX10_write 99 = .ok (.iastore, 1) := by decide +kernel
theorem dX10_write_100 : decode cX10_write 100 = .ok (.aload_n 0, 1) := by decide +kernel
theorem dX10_write_101 : decode cX10_write 101 = .ok (.getfield 27, 3) := by decide +kernel
theorem dX10_write_104 : decode cX10_write 104 = .ok (.iload 7, 2) := by decide +kernel
theorem dX10_write_106 : decode cX10_write 106 = .ok (.bipush 7, 2) := by decide +kernel
theorem dX10_write_108 : decode cX10_write 108 = .ok (.iadd, 1) := by decide +kernel
theorem dX10_write_109 : decode cX10_write 109 = .ok (.iload 5, 2) := by decide +kernel
theorem dX10_write_111 : decode cX10_write 111 = .ok (.iastore, 1) := by decide +kernel
theorem dX10_write_112 : decode cX10_write 112 = .ok (.aload_n 0, 1) := by decide +kernel
theorem dX10_write_113 : decode cX10_write 113 = .ok (.getfield 27, 3) := by decide +kernel
theorem dX10_write_116 : decode cX10_write 116 = .ok (.iload 7, 2) := by decide +kernel
theorem dX10_write_118 : decode cX10_write 118 = .ok (.bipush 8, 2) := by decide +kernel
theorem dX10_write_120 : decode cX10_write 120 = .ok (.iadd, 1) := by decide +kernel
theorem dX10_write_121 : decode cX10_write 121 = .ok (.iload 6, 2) := by decide +kernel
theorem dX10_write_123 : decode cX10_write 123 = .ok (.iastore, 1) := by decide +kernel
theorem dX10_write_124 : decode cX10_write 124 = .ok (.aload_n 0, 1) := by decide +kernel
theorem dX10_write_125 : decode cX10_write 125 = .ok (.dup, 1) := by decide +kernel
theorem dX10_write_126 : decode cX10_write 126 = .ok (.getfield 66, 3) := by decide +kernel
theorem dX10_write_129 : decode cX10_write 129 = .ok (.iconst 1, 1) := by decide +kernel
theorem dX10_write_130 : decode cX10_write 130 = .ok (.iadd, 1) := by decide +kernel
theorem dX10_write_131 : decode cX10_write 131 = .ok (.putfield 66, 3) := by decide +kernel
theorem dX10_write_134 : decode cX10_write 134 = .ok (.return_, 1) := by decide +kernel
theorem dX10_column_0 : decode cX10_column 0 = .ok (.aload_n 0, 1) := by decide +kernel
theorem dX10_column_1 : decode cX10_column 1 = .ok (.iload_n 1, 1) := by decide +kernel
theorem dX10_column_2 : decode cX10_column 2 = .ok (.invokevirtual 106, 3) := by decide +kernel
theorem dX10_column_5 : decode cX10_column 5 = .ok (.ifCond .eq 27, 3) := by decide +kernel
theorem dX10_column_8 : decode cX10_column 8 = .ok (.iload_n 2, 1) := by decide +kernel
theorem dX10_column_9 : decode cX10_column 9 = .ok (.iconst 0, 1) := by decide +kernel
theorem dX10_column_10 : decode cX10_column 10 = .ok (.bipush 8, 2) := by decide +kernel
theorem dX10_column_12 : decode cX10_column 12 = .ok (.invokestatic 89, 3) := by decide +kernel
theorem dX10_column_15 : decode cX10_column 15 = .ok (.ifCond .eq 17, 3) := by decide +kernel
theorem dX10_column_18 : decode cX10_column 18 = .ok (.aload_n 0, 1) := by decide +kernel
theorem dX10_column_19 : decode cX10_column 19 = .ok (.getfield 27, 3) := by decide +kernel
theorem dX10_column_22 : decode cX10_column 22 = .ok (.iload_n 1, 1) := by decide +kernel
theorem dX10_column_23 : decode cX10_column 23 = .ok (.bipush 9, 2) := by decide +kernel
theorem dX10_column_25 : decode cX10_column 25 = .ok (.imul, 1) := by decide +kernel
theorem dX10_column_26 : decode cX10_column 26 = .ok (.iload_n 2, 1) := by decide +kernel
theorem dX10_column_27 : decode cX10_column 27 = .ok (.iadd, 1) := by decide +kernel
theorem dX10_column_28 : decode cX10_column 28 = .ok (.iaload, 1) := by decide +kernel
theorem dX10_column_29 : decode cX10_column 29 = .ok (.goto 4, 3) := by decide +kernel
theorem dX10_column_32 : decode cX10_column 32 = .ok (.iconst (-1), 1) := by decide +kernel
theorem dX10_column_33 : decode cX10_column 33 = .ok (.ireturn, 1) := by decide +kernel
theorem dX10_isToday_0 : decode cX10_isToday 0 = .ok (.aload_n 0, 1) := by decide +kernel
theorem dX10_isToday_1 : decode cX10_isToday 1 = .ok (.iload_n 1, 1) := by decide +kernel
theorem dX10_isToday_2 : decode cX10_isToday 2 = .ok (.iconst 2, 1) := by decide +kernel
theorem dX10_isToday_3 : decode cX10_isToday 3 = .ok (.invokevirtual 110, 3) := by decide +kernel
theorem dX10_isToday_6 : decode cX10_isToday 6 = .ok (.iload_n 2, 1) := by decide +kernel
theorem dX10_isToday_7 : decode cX10_isToday 7 = .ok (.if_icmp .ne 20, 3) := by decide +kernel
theorem dX10_isToday_10 : decode cX10_isToday 10 = .ok (.aload_n 0, 1) := by decide +kernel
theorem dX10_isToday_11 : decode cX10_isToday 11 = .ok (.iload_n 1, 1) := by decide +kernel
theorem dX10_isToday_12 : decode cX10_isToday 12 = .ok (.iconst 0, 1) := by decide +kernel
theorem dX10_isToday_13 : decode cX10_isToday 13 = .ok (.invokevirtual 110, 3) := by decide +kernel
theorem dX10_isToday_16 : decode cX10_isToday 16 = .ok (.aload_n 0, 1) := by decide +kernel
theorem dX10_isToday_17 : decode cX10_isToday 17 = .ok (.getfield 51, 3) := by decide +kernel
theorem dX10_isToday_20 : decode cX10_isToday 20 = .ok (.if_icmp .ne 7, 3) := by decide +kernel
theorem dX10_isToday_23 : decode cX10_isToday 23 = .ok (.iconst 1, 1) := by decide +kernel
theorem dX10_isToday_24 : decode cX10_isToday 24 = .ok (.goto 4, 3) := by decide +kernel
theorem dX10_isToday_27 : decode cX10_isToday 27 = .ok (.iconst 0, 1) := by decide +kernel
theorem dX10_isToday_28 : decode cX10_isToday 28 = .ok (.ireturn, 1) := by decide +kernel
theorem dX10_rule_0 : decode cX10_rule 0 = .ok (.iconst 0, 1) := by decide +kernel
theorem dX10_rule_1 : decode cX10_rule 1 = .ok (.istore_n 2, 1) := by decide +kernel
theorem dX10_rule_2 : decode cX10_rule 2 = .ok (.iconst 0, 1) := by decide +kernel
theorem dX10_rule_3 : decode cX10_rule 3 = .ok (.istore_n 3, 1) := by decide +kernel
theorem dX10_rule_4 : decode cX10_rule 4 = .ok (.iload_n 3, 1) := by decide +kernel
theorem dX10_rule_5 : decode cX10_rule 5 = .ok (.aload_n 0, 1) := by decide +kernel
theorem dX10_rule_6 : decode cX10_rule 6 = .ok (.getfield 66, 3) := by decide +kernel
theorem dX10_rule_9 : decode cX10_rule 9 = .ok (.if_icmp .ge 50, 3) := by decide +kernel
theorem dX10_rule_12 : decode cX10_rule 12 = .ok (.aload_n 0, 1) := by decide +kernel
theorem dX10_rule_13 : decode cX10_rule 13 = .ok (.iload_n 3, 1) := by decide +kernel
theorem dX10_rule_14 : decode cX10_rule 14 = .ok (.bipush 8, 2) := by decide +kernel
theorem dX10_rule_16 : decode cX10_rule 16 = .ok (.invokevirtual 110, 3) := by decide +kernel
theorem dX10_rule_19 : decode cX10_rule 19 = .ok (.istore 4, 2) := by decide +kernel
theorem dX10_rule_21 : decode cX10_rule 21 = .ok (.aload_n 0, 1) := by decide +kernel
theorem dX10_rule_22 : decode cX10_rule 22 = .ok (.iload_n 3, 1) := by decide +kernel
theorem dX10_rule_23 : decode cX10_rule 23 = .ok (.iload_n 1, 1) := by decide +kernel
theorem dX10_rule_24 : decode cX10_rule 24 = .ok (.invokevirtual 114, 3) := by decide +kernel
theorem dX10_rule_27 : decode cX10_rule 27 = .ok (.ifCond .eq 26, 3) := by decide +kernel
theorem dX10_rule_30 : decode cX10_rule 30 = .ok (.iload 4, 2) := by decide +kernel
theorem dX10_rule_32 : decode cX10_rule 32 = .ok (.ifCond .eq 9, 3) := by decide +kernel
theorem dX10_rule_35 : decode cX10_rule 35 = .ok (.iload 4, 2) := by decide +kernel
theorem dX10_rule_37 : decode cX10_rule 37 = .ok (.iconst 2, 1) := by decide +kernel
theorem dX10_rule_38 : decode cX10_rule 38 = .ok (.if_icmp .ne 15, 3) := by decide +kernel
theorem dX10_rule_41 : decode cX10_rule 41 = .ok (.iload_n 2, 1) := by decide +kernel
theorem dX10_rule_42 : decode cX10_rule 42 = .ok (.aload_n 0, 1) := by decide +kernel
theorem dX10_rule_43 : decode cX10_rule 43 = .ok (.iload_n 3, 1) := by decide +kernel
theorem dX10_rule_44 : decode cX10_rule 44 = .ok (.bipush 7, 2) := by decide +kernel
theorem dX10_rule_46 : decode cX10_rule 46 = .ok (.invokevirtual 110, 3) := by decide +kernel
theorem dX10_rule_49 : decode cX10_rule 49 = .ok (.invokestatic 118, 3) := by decide +kernel
theorem dX10_rule_52 : decode cX10_rule 52 = .ok (.istore_n 2, 1) := by decide +kernel
theorem dX10_rule_53 : decode cX10_rule 53 = .ok (.iinc 3 1, 3) := by decide +kernel
theorem dX10_rule_56 : decode cX10_rule 56 = .ok (.goto (-52), 3) := by decide +kernel
theorem dX10_rule_59 : decode cX10_rule 59 = .ok (.iload_n 2, 1) := by decide +kernel
theorem dX10_rule_60 : decode cX10_rule 60 = .ok (.ireturn, 1) := by decide +kernel
theorem dX10_bestBefore_0 : decode cX10_bestBefore 0 = .ok (.iconst 0, 1) := by decide +kernel
theorem dX10_bestBefore_1 : decode cX10_bestBefore 1 = .ok (.istore_n 3, 1) := by decide +kernel
theorem dX10_bestBefore_2 : decode cX10_bestBefore 2 = .ok (.iconst 0, 1) := by decide +kernel
theorem dX10_bestBefore_3 : decode cX10_bestBefore 3 = .ok (.istore 4, 2) := by decide +kernel
theorem dX10_bestBefore_5 : decode cX10_bestBefore 5 = .ok (.iload 4, 2) := by decide +kernel
theorem dX10_bestBefore_7 : decode cX10_bestBefore 7 = .ok (.aload_n 0, 1) := by decide +kernel
theorem dX10_bestBefore_8 : decode cX10_bestBefore 8 = .ok (.getfield 66, 3) := by decide +kernel
theorem dX10_bestBefore_11 : decode cX10_bestBefore 11 = .ok (.if_icmp .ge 54, 3) := by decide +kernel
theorem dX10_bestBefore_14 : decode cX10_bestBefore 14 = .ok (.aload_n 0, 1) := by decide +kernel
theorem dX10_bestBefore_15 : decode cX10_bestBefore 15 = .ok (.iload 4, 2) := by decide +kernel
theorem dX10_bestBefore_17 : decode cX10_bestBefore 17 = .ok (.iload_n 1, 1) := by decide +kernel
theorem dX10_bestBefore_18 : decode cX10_bestBefore 18 = .ok (.invokevirtual 114, 3) := by decide +kernel
theorem dX10_bestBefore_21 : decode cX10_bestBefore 21 = .ok (.ifCond .eq 38, 3) := by decide +kernel
theorem dX10_bestBefore_24 : decode cX10_bestBefore 24 = .ok (.aload_n 0, 1) := by decide +kernel
theorem dX10_bestBefore_25 : decode cX10_bestBefore 25 = .ok (.iload 4, 2) := by decide +kernel
theorem dX10_bestBefore_27 : decode cX10_bestBefore 27 = .ok (.bipush 8, 2) := by decide +kernel
theorem dX10_bestBefore_29 : decode cX10_bestBefore 29 = .ok (.invokevirtual 110, 3) := by decide +kernel
theorem dX10_bestBefore_32 : decode cX10_bestBefore 32 = .ok (.ifCond .ne 27, 3) := by decide +kernel
theorem dX10_bestBefore_35 : decode cX10_bestBefore 35 = .ok (.aload_n 0, 1) := by decide +kernel
theorem dX10_bestBefore_36 : decode cX10_bestBefore 36 = .ok (.iload 4, 2) := by decide +kernel
theorem dX10_bestBefore_38 : decode cX10_bestBefore 38 = .ok (.iconst 1, 1) := by decide +kernel
theorem dX10_bestBefore_39 : decode cX10_bestBefore 39 = .ok (.invokevirtual 110, 3) := by decide +kernel
theorem dX10_bestBefore_42 : decode cX10_bestBefore 42 = .ok (.iload_n 2, 1) := by decide +kernel
theorem dX10_bestBefore_43 : decode cX10_bestBefore 43 = .ok (.if_icmp .ge 16, 3) := by decide +kernel
theorem dX10_bestBefore_46 : decode cX10_bestBefore 46 = .ok (.iload_n 3, 1) := by decide +kernel
theorem dX10_bestBefore_47 : decode cX10_bestBefore 47 = .ok (.aload_n 0, 1) := by decide +kernel
theorem dX10_bestBefore_48 : decode cX10_bestBefore 48 = .ok (.iload 4, 2) := by decide +kernel
theorem dX10_bestBefore_50 : decode cX10_bestBefore 50 = .ok (.bipush 7, 2) := by decide +kernel
theorem dX10_bestBefore_52 : decode cX10_bestBefore 52 = .ok (.invokevirtual 110, 3) := by decide +kernel
theorem dX10_bestBefore_55 : decode cX10_bestBefore 55 = .ok (.invokestatic 118, 3) := by decide +kernel
theorem dX10_bestBefore_58 : decode cX10_bestBefore 58 = .ok (.istore_n 3, 1) := by decide +kernel
theorem dX10_bestBefore_59 : decode cX10_bestBefore 59 = .ok (.iinc 4 1, 3) := by decide +kernel
theorem dX10_bestBefore_62 : decode cX10_bestBefore 62 = .ok (.goto (-57), 3) := by decide +kernel
theorem dX10_bestBefore_65 : decode cX10_bestBefore 65 = .ok (.iload_n 3, 1) := by decide +kernel
theorem dX10_bestBefore_66 : decode cX10_bestBefore 66 = .ok (.ireturn, 1) := by decide +kernel
theorem dX10_rank_0 : decode cX10_rank 0 = .ok (.iconst 1, 1) := by decide +kernel
theorem dX10_rank_1 : decode cX10_rank 1 = .ok (.istore_n 2, 1) := by decide +kernel
theorem dX10_rank_2 : decode cX10_rank 2 = .ok (.iconst 0, 1) := by decide +kernel
theorem dX10_rank_3 : decode cX10_rank 3 = .ok (.istore_n 3, 1) := by decide +kernel
theorem dX10_rank_4 : decode cX10_rank 4 = .ok (.iload_n 3, 1) := by decide +kernel
theorem dX10_rank_5 : decode cX10_rank 5 = .ok (.aload_n 0, 1) := by decide +kernel
theorem dX10_rank_6 : decode cX10_rank 6 = .ok (.getfield 63, 3) := by decide +kernel
theorem dX10_rank_9 : decode cX10_rank 9 = .ok (.if_icmp .ge 34, 3) := by decide +kernel
theorem dX10_rank_12 : decode cX10_rank 12 = .ok (.iload_n 3, 1) := by decide +kernel
theorem dX10_rank_13 : decode cX10_rank 13 = .ok (.bipush 8, 2) := by decide +kernel
theorem dX10_rank_15 : decode cX10_rank 15 = .ok (.if_icmp .ge 28, 3) := by decide +kernel
theorem dX10_rank_18 : decode cX10_rank 18 = .ok (.aload_n 0, 1) := by decide +kernel
theorem dX10_rank_19 : decode cX10_rank 19 = .ok (.getfield 23, 3) := by decide +kernel
theorem dX10_rank_22 : decode cX10_rank 22 = .ok (.iload_n 3, 1) := by decide +kernel
theorem dX10_rank_23 : decode cX10_rank 23 = .ok (.aaload, 1) := by decide +kernel
theorem dX10_rank_24 : decode cX10_rank 24 = .ok (.getfield 123, 3) := by decide +kernel
theorem dX10_rank_27 : decode cX10_rank 27 = .ok (.aload_n 1, 1) := by decide +kernel
theorem dX10_rank_28 : decode cX10_rank 28 = .ok (.getfield 123, 3) := by decide +kernel
theorem dX10_rank_31 : decode cX10_rank 31 = .ok (.if_icmp .le 6, 3) := by decide +kernel
theorem dX10_rank_34 : decode cX10_rank 34 = .ok (.iinc 2 1, 3) := by decide +kernel
theorem dX10_rank_37 : decode cX10_rank 37 = .ok (.iinc 3 1, 3) := by decide +kernel
theorem dX10_rank_40 : decode cX10_rank 40 = .ok (.goto (-36), 3) := by decide +kernel
theorem dX10_rank_43 : decode cX10_rank 43 = .ok (.iload_n 2, 1) := by decide +kernel
theorem dX10_rank_44 : decode cX10_rank 44 = .ok (.ireturn, 1) := by decide +kernel
theorem dX10_needs_0 : decode cX10_needs 0 = .ok (.aload_n 0, 1) := by decide +kernel
theorem dX10_needs_1 : decode cX10_needs 1 = .ok (.iload_n 1, 1) := by decide +kernel
theorem dX10_needs_2 : decode cX10_needs 2 = .ok (.invokevirtual 93, 3) := by decide +kernel
theorem dX10_needs_5 : decode cX10_needs 5 = .ok (.astore_n 2, 1) := by decide +kernel
theorem dX10_needs_6 : decode cX10_needs 6 = .ok (.aload_n 2, 1) := by decide +kernel
theorem dX10_needs_7 : decode cX10_needs 7 = .ok (.ifnonnull 5, 3) := by decide +kernel
theorem dX10_needs_10 : decode cX10_needs 10 = .ok (.iconst (-1), 1) := by decide +kernel
theorem dX10_needs_11 : decode cX10_needs 11 = .ok (.ireturn, 1) := by decide +kernel
theorem dX10_needs_12 : decode cX10_needs 12 = .ok (.iconst 0, 1) := by decide +kernel
theorem dX10_needs_13 : decode cX10_needs 13 = .ok (.istore_n 3, 1) := by decide +kernel
theorem dX10_needs_14 : decode cX10_needs 14 = .ok (.iconst 0, 1) := by decide +kernel
theorem dX10_needs_15 : decode cX10_needs 15 = .ok (.istore 4, 2) := by decide +kernel
theorem dX10_needs_17 : decode cX10_needs 17 = .ok (.iload 4, 2) := by decide +kernel
theorem dX10_needs_19 : decode cX10_needs 19 = .ok (.aload_n 0, 1) := by decide +kernel
theorem dX10_needs_20 : decode cX10_needs 20 = .ok (.getfield 63, 3) := by decide +kernel
theorem dX10_needs_23 : decode cX10_needs 23 = .ok (.if_icmp .ge 44, 3) := by decide +kernel
theorem dX10_needs_26 : decode cX10_needs 26 = .ok (.iload 4, 2) := by decide +kernel
theorem dX10_needs_28 : decode cX10_needs 28 = .ok (.bipush 8, 2) := by decide +kernel
theorem dX10_needs_30 : decode cX10_needs 30 = .ok (.if_icmp .ge 37, 3) := by decide +kernel
theorem dX10_needs_33 : decode cX10_needs 33 = .ok (.iload 4, 2) := by decide +kernel
theorem dX10_needs_35 : decode cX10_needs 35 = .ok (.iload_n 1, 1) := by decide +kernel
theorem dX10_needs_36 : decode cX10_needs 36 = .ok (.if_icmp .eq 25, 3) := by decide +kernel
theorem dX10_needs_39 : decode cX10_needs 39 = .ok (.iload_n 3, 1) := by decide +kernel
theorem dX10_needs_40 : decode cX10_needs 40 = .ok (.aload_n 0, 1) := by decide +kernel
theorem dX10_needs_41 : decode cX10_needs 41 = .ok (.getfield 23, 3) := by decide +kernel
theorem dX10_needs_44 : decode cX10_needs 44 = .ok (.iload 4, 2) := by decide +kernel
theorem dX10_needs_46 : decode cX10_needs 46 = .ok (.aaload, 1) := by decide +kernel
theorem dX10_needs_47 : decode cX10_needs 47 = .ok (.getfield 123, 3) := by decide +kernel
theorem dX10_needs_50 : decode cX10_needs 50 = .ok (.iconst 1, 1) := by decide +kernel
theorem dX10_needs_51 : decode cX10_needs 51 = .ok (.iadd, 1) := by decide +kernel
theorem dX10_needs_52 : decode cX10_needs 52 = .ok (.aload_n 2, 1) := by decide +kernel
theorem dX10_needs_53 : decode cX10_needs 53 = .ok (.getfield 123, 3) := by decide +kernel
theorem dX10_needs_56 : decode cX10_needs 56 = .ok (.isub, 1) := by decide +kernel
theorem dX10_needs_57 : decode cX10_needs 57 = .ok (.invokestatic 118, 3) := by decide +kernel
theorem dX10_needs_60 : decode cX10_needs 60 = .ok (.istore_n 3, 1) := by decide +kernel
theorem dX10_needs_61 : decode cX10_needs 61 = .ok (.iinc 4 1, 3) := by decide +kernel
theorem dX10_needs_64 : decode cX10_needs 64 = .ok (.goto (-47), 3) := by decide +kernel
theorem dX10_needs_67 : decode cX10_needs 67 = .ok (.iload_n 3, 1) := by decide +kernel
theorem dX10_needs_68 : decode cX10_needs 68 = .ok (.ireturn, 1) := by decide +kernel
theorem dX10_ahead_0 : decode cX10_ahead 0 = .ok (.aload_n 0, 1) := by decide +kernel
theorem dX10_ahead_1 : decode cX10_ahead 1 = .ok (.iload_n 1, 1) := by decide +kernel
theorem dX10_ahead_2 : decode cX10_ahead 2 = .ok (.invokevirtual 93, 3) := by decide +kernel
theorem dX10_ahead_5 : decode cX10_ahead 5 = .ok (.astore_n 2, 1) := by decide +kernel
theorem dX10_ahead_6 : decode cX10_ahead 6 = .ok (.aload_n 2, 1) := by decide +kernel
theorem dX10_ahead_7 : decode cX10_ahead 7 = .ok (.ifnonnull 5, 3) := by decide +kernel
theorem dX10_ahead_10 : decode cX10_ahead 10 = .ok (.iconst (-1), 1) := by decide +kernel
theorem dX10_ahead_11 : decode cX10_ahead 11 = .ok (.ireturn, 1) := by decide +kernel
theorem dX10_ahead_12 : decode cX10_ahead 12 = .ok (.iconst 0, 1) := by decide +kernel
theorem dX10_ahead_13 : decode cX10_ahead 13 = .ok (.istore_n 3, 1) := by decide +kernel
theorem dX10_ahead_14 : decode cX10_ahead 14 = .ok (.iconst 0, 1) := by decide +kernel
theorem dX10_ahead_15 : decode cX10_ahead 15 = .ok (.istore 4, 2) := by decide +kernel
theorem dX10_ahead_17 : decode cX10_ahead 17 = .ok (.iload 4, 2) := by decide +kernel
theorem dX10_ahead_19 : decode cX10_ahead 19 = .ok (.aload_n 0, 1) := by decide +kernel
theorem dX10_ahead_20 : decode cX10_ahead 20 = .ok (.getfield 63, 3) := by decide +kernel
theorem dX10_ahead_23 : decode cX10_ahead 23 = .ok (.if_icmp .ge 59, 3) := by decide +kernel
theorem dX10_ahead_26 : decode cX10_ahead 26 = .ok (.iload 4, 2) := by decide +kernel
theorem dX10_ahead_28 : decode cX10_ahead 28 = .ok (.bipush 8, 2) := by decide +kernel
theorem dX10_ahead_30 : decode cX10_ahead 30 = .ok (.if_icmp .ge 52, 3) := by decide +kernel
theorem dX10_ahead_33 : decode cX10_ahead 33 = .ok (.aload_n 0, 1) := by decide +kernel
theorem dX10_ahead_34 : decode cX10_ahead 34 = .ok (.getfield 23, 3) := by decide +kernel
theorem dX10_ahead_37 : decode cX10_ahead 37 = .ok (.iload 4, 2) := by decide +kernel
theorem dX10_ahead_39 : decode cX10_ahead 39 = .ok (.aaload, 1) := by decide +kernel
theorem dX10_ahead_40 : decode cX10_ahead 40 = .ok (.getfield 123, 3) := by decide +kernel
theorem dX10_ahead_43 : decode cX10_ahead 43 = .ok (.aload_n 2, 1) := by decide +kernel
theorem dX10_ahead_44 : decode cX10_ahead 44 = .ok (.getfield 123, 3) := by decide +kernel
theorem dX10_ahead_47 : decode cX10_ahead 47 = .ok (.if_icmp .gt 26, 3) := by decide +kernel
theorem dX10_ahead_50 : decode cX10_ahead 50 = .ok (.aload_n 0, 1) := by decide +kernel
theorem dX10_ahead_51 : decode cX10_ahead 51 = .ok (.getfield 23, 3) := by decide +kernel
theorem dX10_ahead_54 : decode cX10_ahead 54 = .ok (.iload 4, 2) := by decide +kernel
theorem dX10_ahead_56 : decode cX10_ahead 56 = .ok (.aaload, 1) := by decide +kernel
theorem dX10_ahead_57 : decode cX10_ahead 57 = .ok (.getfield 123, 3) := by decide +kernel
theorem dX10_ahead_60 : decode cX10_ahead 60 = .ok (.aload_n 2, 1) := by decide +kernel
theorem dX10_ahead_61 : decode cX10_ahead 61 = .ok (.getfield 123, 3) := by decide +kernel
theorem dX10_ahead_64 : decode cX10_ahead 64 = .ok (.if_icmp .ne 12, 3) := by decide +kernel
theorem dX10_ahead_67 : decode cX10_ahead 67 = .ok (.iload 4, 2) := by decide +kernel
theorem dX10_ahead_69 : decode cX10_ahead 69 = .ok (.iload_n 1, 1) := by decide +kernel
theorem dX10_ahead_70 : decode cX10_ahead 70 = .ok (.if_icmp .ge 6, 3) := by decide +kernel
theorem dX10_ahead_73 : decode cX10_ahead 73 = .ok (.iinc 3 1, 3) := by decide +kernel
theorem dX10_ahead_76 : decode cX10_ahead 76 = .ok (.iinc 4 1, 3) := by decide +kernel
theorem dX10_ahead_79 : decode cX10_ahead 79 = .ok (.goto (-62), 3) := by decide +kernel
theorem dX10_ahead_82 : decode cX10_ahead 82 = .ok (.iload_n 3, 1) := by decide +kernel
theorem dX10_ahead_83 : decode cX10_ahead 83 = .ok (.ireturn, 1) := by decide +kernel
theorem dX11_init_0 : decode cX11_init 0 = .ok (.aload_n 0, 1) := by decide +kernel
theorem dX11_init_1 : decode cX11_init 1 = .ok (.invokespecial 1, 3) := by decide +kernel
theorem dX11_init_4 : decode cX11_init 4 = .ok (.aload_n 0, 1) := by decide +kernel
theorem dX11_init_5 : decode cX11_init 5 = .ok (.new 7, 3) := by decide +kernel
theorem dX11_init_8 : decode cX11_init 8 = .ok (.dup, 1) := by decide +kernel
theorem dX11_init_9 : decode cX11_init 9 = .ok (.invokespecial 9, 3) := by decide +kernel
theorem dX11_init_12 : decode cX11_init 12 = .ok (.putfield 10, 3) := by decide +kernel
theorem dX11_init_15 : decode cX11_init 15 = .ok (.aload_n 0, 1) := by decide +kernel
theorem dX11_init_16 : decode cX11_init 16 = .ok (.new 16, 3) := by decide +kernel
theorem dX11_init_19 : decode cX11_init 19 = .ok (.dup, 1) := by decide +kernel
theorem dX11_init_20 : decode cX11_init 20 = .ok (.invokespecial 18, 3) := by decide +kernel
theorem dX11_init_23 : decode cX11_init 23 = .ok (.putfield 19, 3) := by decide +kernel
theorem dX11_init_26 : decode cX11_init 26 = .ok (.aload_n 0, 1) := by decide +kernel
theorem dX11_init_27 : decode cX11_init 27 = .ok (.new 23, 3) := by decide +kernel
theorem dX11_init_30 : decode cX11_init 30 = .ok (.dup, 1) := by decide +kernel
theorem dX11_init_31 : decode cX11_init 31 = .ok (.invokespecial 25, 3) := by decide +kernel
theorem dX11_init_34 : decode cX11_init 34 = .ok (.putfield 26, 3) := by decide +kernel
theorem dX11_init_37 : decode cX11_init 37 = .ok (.aload_n 0, 1) := by decide +kernel
theorem dX11_init_38 : decode cX11_init 38 = .ok (.new 30, 3) := by decide +kernel
theorem dX11_init_41 : decode cX11_init 41 = .ok (.dup, 1) := by decide +kernel
theorem dX11_init_42 : decode cX11_init 42 = .ok (.invokespecial 32, 3) := by decide +kernel
theorem dX11_init_45 : decode cX11_init 45 = .ok (.putfield 33, 3) := by decide +kernel
theorem dX11_init_48 : decode cX11_init 48 = .ok (.aload_n 0, 1) := by decide +kernel
theorem dX11_init_49 : decode cX11_init 49 = .ok (.new 37, 3) := by decide +kernel
theorem dX11_init_52 : decode cX11_init 52 = .ok (.dup, 1) := by decide +kernel
theorem dX11_init_53 : decode cX11_init 53 = .ok (.invokespecial 39, 3) := by decide +kernel
theorem dX11_init_56 : decode cX11_init 56 = .ok (.putfield 40, 3) := by decide +kernel
theorem dX11_init_59 : decode cX11_init 59 = .ok (.return_, 1) := by decide +kernel
theorem dX11_state_0 : decode cX11_state 0 = .ok (.aload_n 0, 1) := by decide +kernel
theorem dX11_state_1 : decode cX11_state 1 = .ok (.getfield 10, 3) := by decide +kernel
theorem dX11_state_4 : decode cX11_state 4 = .ok (.getfield 44, 3) := by decide +kernel
theorem dX11_state_7 : decode cX11_state 7 = .ok (.istore_n 2, 1) := by decide +kernel
theorem dX11_state_8 : decode cX11_state 8 = .ok (.aload_n 0, 1) := by decide +kernel
theorem dX11_state_9 : decode cX11_state 9 = .ok (.getfield 10, 3) := by decide +kernel
theorem dX11_state_12 : decode cX11_state 12 = .ok (.iload_n 1, 1) := by decide +kernel
theorem dX11_state_13 : decode cX11_state 13 = .ok (.putfield 44, 3) := by decide +kernel
theorem dX11_state_16 : decode cX11_state 16 = .ok (.aload_n 0, 1) := by decide +kernel
theorem dX11_state_17 : decode cX11_state 17 = .ok (.getfield 40, 3) := by decide +kernel
theorem dX11_state_20 : decode cX11_state 20 = .ok (.invokevirtual 48, 3) := by decide +kernel
theorem dX11_state_23 : decode cX11_state 23 = .ok (.iload_n 2, 1) := by decide +kernel
theorem dX11_state_24 : decode cX11_state 24 = .ok (.ireturn, 1) := by decide +kernel
theorem dX11_spear_0 : decode cX11_spear 0 = .ok (.iload_n 1, 1) := by decide +kernel
theorem dX11_spear_1 : decode cX11_spear 1 = .ok (.iconst 0, 1) := by decide +kernel
theorem dX11_spear_2 : decode cX11_spear 2 = .ok (.bipush 9, 2) := by decide +kernel
theorem dX11_spear_4 : decode cX11_spear 4 = .ok (.invokestatic 51, 3) := by decide +kernel
theorem dX11_spear_7 : decode cX11_spear 7 = .ok (.ifCond .eq 25, 3) := by decide +kernel
theorem dX11_spear_10 : decode cX11_spear 10 = .ok (.iload_n 2, 1) := by decide +kernel
theorem dX11_spear_11 : decode cX11_spear 11 = .ok (.iconst 0, 1) := by decide +kernel
theorem dX11_spear_12 : decode cX11_spear 12 = .ok (.bipush 9, 2) := by decide +kernel
theorem dX11_spear_14 : decode cX11_spear 14 = .ok (.invokestatic 51, 3) := by decide +kernel
theorem dX11_spear_17 : decode cX11_spear 17 = .ok (.ifCond .eq 15, 3) := by decide +kernel
theorem dX11_spear_20 : decode cX11_spear 20 = .ok (.aload_n 0, 1) := by decide +kernel
theorem dX11_spear_21 : decode cX11_spear 21 = .ok (.getfield 10, 3) := by decide +kernel
theorem dX11_spear_24 : decode cX11_spear 24 = .ok (.getfield 55, 3) := by decide +kernel
theorem dX11_spear_27 : decode cX11_spear 27 = .ok (.bipush 6, 2) := by decide +kernel
theorem dX11_spear_29 : decode cX11_spear 29 = .ok (.if_icmp .lt 5, 3) := by decide +kernel
theorem dX11_spear_32 : decode cX11_spear 32 = .ok (.iconst (-1), 1) := by decide +kernel
theorem dX11_spear_33 : decode cX11_spear 33 = .ok (.ireturn, 1) := by decide +kernel
theorem dX11_spear_34 : decode cX11_spear 34 = .ok (.aload_n 0, 1) := by decide +kernel
theorem dX11_spear_35 : decode cX11_spear 35 = .ok (.getfield 40, 3) := by decide +kernel
theorem dX11_spear_38 : decode cX11_spear 38 = .ok (.invokevirtual 48, 3) := by decide +kernel
theorem dX11_spear_41 : decode cX11_spear 41 = .ok (.aload_n 0, 1) := by decide +kernel
theorem dX11_spear_42 : decode cX11_spear 42 = .ok (.getfield 10, 3) := by decide +kernel
theorem dX11_spear_45 : decode cX11_spear 45 = .ok (.iload_n 1, 1) := by decide +kernel
theorem dX11_spear_46 : decode cX11_spear 46 = .ok (.iload_n 2, 1) := by decide +kernel
theorem dX11_spear_47 : decode cX11_spear 47 = .ok (.invokevirtual 58, 3) := by decide +kernel
theorem dX11_spear_50 : decode cX11_spear 50 = .ok (.ireturn, 1) := by decide +kernel
theorem dX11_thrower_0 : decode cX11_thrower 0 = .ok (.iload_n 1, 1) := by decide +kernel
theorem dX11_thrower_1 : decode cX11_thrower 1 = .ok (.iconst 0, 1) := by decide +kernel
theorem dX11_thrower_2 : decode cX11_thrower 2 = .ok (.bipush 99, 2) := by decide +kernel
theorem dX11_thrower_4 : decode cX11_thrower 4 = .ok (.invokestatic 51, 3) := by decide +kernel
theorem dX11_thrower_7 : decode cX11_thrower 7 = .ok (.ifCond .eq 25, 3) := by decide +kernel
theorem dX11_thrower_10 : decode cX11_thrower 10 = .ok (.aload_n 0, 1) := by decide +kernel
theorem dX11_thrower_11 : decode cX11_thrower 11 = .ok (.getfield 10, 3) := by decide +kernel
theorem dX11_thrower_14 : decode cX11_thrower 14 = .ok (.getfield 62, 3) := by decide +kernel
theorem dX11_thrower_17 : decode cX11_thrower 17 = .ok (.bipush 8, 2) := by decide +kernel
theorem dX11_thrower_19 : decode cX11_thrower 19 = .ok (.if_icmp .ge 13, 3) := by decide +kernel
theorem dX11_thrower_22 : decode cX11_thrower 22 = .ok (.aload_n 0, 1) := by decide +kernel
theorem dX11_thrower_23 : decode cX11_thrower 23 = .ok (.getfield 10, 3) := by decide +kernel
theorem dX11_thrower_26 : decode cX11_thrower 26 = .ok (.invokevirtual 65, 3) := by decide +kernel
theorem dX11_thrower_29 : decode cX11_thrower 29 = .ok (.ifCond .eq 5, 3) := by decide +kernel
theorem dX11_thrower_32 : decode cX11_thrower 32 = .ok (.iconst (-1), 1) := by decide +kernel
theorem dX11_thrower_33 : decode cX11_thrower 33 = .ok (.ireturn, 1) := by decide +kernel
theorem dX11_thrower_34 : decode cX11_thrower 34 = .ok (.aload_n 0, 1) := by decide +kernel
theorem dX11_thrower_35 : decode cX11_thrower 35 = .ok (.getfield 40, 3) := by decide +kernel
theorem dX11_thrower_38 : decode cX11_thrower 38 = .ok (.invokevirtual 48, 3) := by decide +kernel
theorem dX11_thrower_41 : decode cX11_thrower 41 = .ok (.aload_n 0, 1) := by decide +kernel
theorem dX11_thrower_42 : decode cX11_thrower 42 = .ok (.getfield 10, 3) := by decide +kernel
theorem dX11_thrower_45 : decode cX11_thrower 45 = .ok (.iload_n 1, 1) := by decide +kernel
theorem dX11_thrower_46 : decode cX11_thrower 46 = .ok (.invokevirtual 69, 3) := by decide +kernel
theorem dX11_thrower_49 : decode cX11_thrower 49 = .ok (.ireturn, 1) := by decide +kernel
theorem dX11_set_0 : decode cX11_set 0 = .ok (.iload_n 1, 1) := by decide +kernel
theorem dX11_set_1 : decode cX11_set 1 = .ok (.iconst 0, 1) := by decide +kernel
theorem dX11_set_2 : decode cX11_set 2 = .ok (.iconst 4, 1) := by decide +kernel
theorem dX11_set_3 : decode cX11_set 3 = .ok (.invokestatic 51, 3) := by decide +kernel
theorem dX11_set_6 : decode cX11_set 6 = .ok (.ifCond .eq 15, 3) := by decide +kernel
theorem dX11_set_9 : decode cX11_set 9 = .ok (.aload_n 0, 1) := by decide +kernel
theorem dX11_set_10 : decode cX11_set 10 = .ok (.getfield 10, 3) := by decide +kernel
theorem dX11_set_13 : decode cX11_set 13 = .ok (.iload_n 1, 1) := by decide +kernel
theorem dX11_set_14 : decode cX11_set 14 = .ok (.iload_n 3, 1) := by decide +kernel
theorem dX11_set_15 : decode cX11_set 15 = .ok (.invokevirtual 73, 3) := by decide +kernel
theorem dX11_set_18 : decode cX11_set 18 = .ok (.goto 10, 3) := by decide +kernel
theorem dX11_set_21 : decode cX11_set 21 = .ok (.aload_n 0, 1) := by decide +kernel
theorem dX11_set_22 : decode cX11_set 22 = .ok (.iload_n 1, 1) := by decide +kernel
theorem dX11_set_23 : decode cX11_set 23 = .ok (.iload_n 2, 1) := by decide +kernel
theorem dX11_set_24 : decode cX11_set 24 = .ok (.iload_n 3, 1) := by decide +kernel
theorem dX11_set_25 : decode cX11_set 25 = .ok (.invokevirtual 77, 3) := by decide +kernel
theorem dX11_set_28 : decode cX11_set 28 = .ok (.istore 4, 2) := by decide +kernel
theorem dX11_set_30 : decode cX11_set 30 = .ok (.iload 4, 2) := by decide +kernel
theorem dX11_set_32 : decode cX11_set 32 = .ok (.ifCond .eq 10, 3) := by decide +kernel
theorem dX11_set_35 : decode cX11_set 35 = .ok (.aload_n 0, 1) := by decide +kernel
theorem dX11_set_36 : decode cX11_set 36 = .ok (.getfield 40, 3) := by decide +kernel
theorem dX11_set_39 : decode cX11_set 39 = .ok (.invokevirtual 48, 3) := by decide +kernel
theorem dX11_set_42 : decode cX11_set 42 = .ok (.iload 4, 2) := by decide +kernel
theorem dX11_set_44 : decode cX11_set 44 = .ok (.ireturn, 1) := by decide +kernel
theorem dX11_tellThrower_0 : decode cX11_tellThrower 0 = .ok (.aload_n 0, 1) := by decide +kernel
theorem dX11_tellThrower_1 : decode cX11_tellThrower 1 = .ok (.getfield 10, 3) := by decide +kernel
theorem dX11_tellThrower_4 : decode cX11_tellThrower 4 = .ok (.iload_n 2, 1) := by decide +kernel
theorem dX11_tellThrower_5 : decode cX11_tellThrower 5 = .ok (.invokevirtual 80, 3) := by decide +kernel
theorem dX11_tellThrower_8 : decode cX11_tellThrower 8 = .ok (.astore 4, 2) := by decide +kernel
theorem dX11_tellThrower_10 : decode cX11_tellThrower 10 = .ok (.aload 4, 2) := by decide +kernel
theorem dX11_tellThrower_12 : decode cX11_tellThrower 12 = .ok (.ifnonnull 5, 3) := by decide +kernel
theorem dX11_tellThrower_15 : decode cX11_tellThrower 15 = .ok (.iconst 0, 1) := by decide +kernel
theorem dX11_tellThrower_16 : decode cX11_tellThrower 16 = .ok (.ireturn, 1) := by decide +kernel
theorem dX11_tellThrower_17 : decode cX11_tellThrower 17 = .ok (.iload_n 1, 1) := by decide +kernel
theorem dX11_tellThrower_18 : decode cX11_tellThrower 18 = .ok (.iconst 5, 1) := by decide +kernel
theorem dX11_tellThrower_19 : decode cX11_tellThrower 19 = .ok (.if_icmp .ne 21, 3) := by decide +kernel
theorem dX11_tellThrower_22 : decode cX11_tellThrower 22 = .ok (.iload_n 3, 1) := by decide +kernel
theorem dX11_tellThrower_23 : decode cX11_tellThrower 23 = .ok (.iconst 0, 1) := by decide +kernel
theorem dX11_tellThrower_24 : decode cX11_tellThrower 24 = .ok (.bipush 99, 2) := by decide +kernel
theorem dX11_tellThrower_26 : decode cX11_tellThrower 26 = .ok (.invokestatic 51, 3) := by decide +kernel
theorem dX11_tellThrower_29 : decode cX11_tellThrower 29 = .ok (.ifCond .eq 11, 3) := by decide +kernel
theorem dX11_tellThrower_32 : decode cX11_tellThrower 32 = .ok (.aload 4, 2) := by decide +kernel
theorem dX11_tellThrower_34 : decode cX11_tellThrower 34 = .ok (.iload_n 3, 1) := by decide +kernel
theorem dX11_tellThrower_35 : decode cX11_tellThrower 35 = .ok (.putfield 84, 3) := by decide +kernel
theorem dX11_tellThrower_38 : decode cX11_tellThrower 38 = .ok (.iconst 1, 1) := by decide +kernel
theorem dX11_tellThrower_39 : decode cX11_tellThrower 39 = .ok (.ireturn, 1) := by decide +kernel
theorem dX11_tellThrower_40 : decode cX11_tellThrower 40 = .ok (.iload_n 1, 1) := by decide +kernel
theorem dX11_tellThrower_41 : decode cX11_tellThrower 41 = .ok (.bipush 6, 2) := by decide +kernel
theorem dX11_tellThrower_43 : decode cX11_tellThrower 43 = .ok (.if_icmp .ne 22, 3) := by decide +kernel
theorem dX11_tellThrower_46 : decode cX11_tellThrower 46 = .ok (.iload_n 3, 1) := by decide +kernel
theorem dX11_tellThrower_47 : decode cX11_tellThrower 47 = .ok (.iconst 0, 1) := by decide +kernel
theorem dX11_tellThrower_48 : decode cX11_tellThrower 48 = .ok (.sipush 1000, 3) := by decide +kernel
theorem dX11_tellThrower_51 : decode cX11_tellThrower 51 = .ok (.invokestatic 51, 3) := by decide +kernel
theorem dX11_tellThrower_54 : decode cX11_tellThrower 54 = .ok (.ifCond .eq 11, 3) := by decide +kernel
theorem dX11_tellThrower_57 : decode cX11_tellThrower 57 = .ok (.aload 4, 2) := by decide +kernel
theorem dX11_tellThrower_59 : decode cX11_tellThrower 59 = .ok (.iload_n 3, 1) := by decide +kernel
theorem dX11_tellThrower_60 : decode cX11_tellThrower 60 = .ok (.putfield 89, 3) := by decide +kernel
theorem dX11_tellThrower_63 : decode cX11_tellThrower 63 = .ok (.iconst 1, 1) := by decide +kernel
theorem dX11_tellThrower_64 : decode cX11_tellThrower 64 = .ok (.ireturn, 1) := by decide +kernel
theorem dX11_tellThrower_65 : decode cX11_tellThrower 65 = .ok (.iconst 0, 1) := by decide +kernel
theorem dX11_tellThrower_66 : decode cX11_tellThrower 66 = .ok (.ireturn, 1) := by decide +kernel
theorem dX11_feed_0 : decode cX11_feed 0 = .ok (.aload_n 0, 1) := by decide +kernel
theorem dX11_feed_1 : decode cX11_feed 1 = .ok (.getfield 19, 3) := by decide +kernel
theorem dX11_feed_4 : decode cX11_feed 4 = .ok (.getfield 92, 3) := by decide +kernel
theorem dX11_feed_7 : decode cX11_feed 7 = .ok (.astore 6, 2) := by decide +kernel
theorem dX11_feed_9 : decode cX11_feed 9 = .ok (.aload 6, 2) := by decide +kernel
theorem dX11_feed_11 : decode cX11_feed 11 = .ok (.getfield 96, 3) := by decide +kernel
theorem dX11_feed_14 : decode cX11_feed 14 = .ok (.bipush 20, 2) := by decide +kernel
theorem dX11_feed_16 : decode cX11_feed 16 = .ok (.iadd, 1) := by decide +kernel
theorem dX11_feed_17 : decode cX11_feed 17 = .ok (.sipush 400, 3) := by decide +kernel
theorem dX11_feed_20 : decode cX11_feed 20 = .ok (.if_icmp .le 5, 3) := by decide +kernel
theorem dX11_feed_23 : decode cX11_feed 23 = .ok (.iconst (-1), 1) := by decide +kernel
theorem dX11_feed_24 : decode cX11_feed 24 = .ok (.ireturn, 1) := by decide +kernel
theorem dX11_feed_25 : decode cX11_feed 25 = .ok (.aload 6, 2) := by decide +kernel
theorem dX11_feed_27 : decode cX11_feed 27 = .ok (.iload_n 1, 1) := by decide +kernel
theorem dX11_feed_28 : decode cX11_feed 28 = .ok (.invokevirtual 101, 3) := by decide +kernel
theorem dX11_feed_31 : decode cX11_feed 31 = .ok (.aload 6, 2) := by decide +kernel
theorem dX11_feed_33 : decode cX11_feed 33 = .ok (.iload_n 2, 1) := by decide +kernel
theorem dX11_feed_34 : decode cX11_feed 34 = .ok (.invokevirtual 101, 3) := by decide +kernel
theorem dX11_feed_37 : decode cX11_feed 37 = .ok (.aload 6, 2) := by decide +kernel
theorem dX11_feed_39 : decode cX11_feed 39 = .ok (.iload_n 3, 1) := by decide +kernel
theorem dX11_feed_40 : decode cX11_feed 40 = .ok (.invokevirtual 101, 3) := by decide +kernel
theorem dX11_feed_43 : decode cX11_feed 43 = .ok (.aload 6, 2) := by decide +kernel
theorem dX11_feed_45 : decode cX11_feed 45 = .ok (.iload 4, 2) := by decide +kernel
theorem dX11_feed_47 : decode cX11_feed 47 = .ok (.invokevirtual 101, 3) := by decide +kernel
theorem dX11_feed_50 : decode cX11_feed 50 = .ok (.aload 6, 2) := by decide +kernel
theorem dX11_feed_52 : decode cX11_feed 52 = .ok (.iload 5, 2) := by decide +kernel
theorem dX11_feed_54 : decode cX11_feed 54 = .ok (.invokevirtual 101, 3) := by decide +kernel
theorem dX11_feed_57 : decode cX11_feed 57 = .ok (.aload 6, 2) := by decide +kernel
theorem dX11_feed_59 : decode cX11_feed 59 = .ok (.getfield 96, 3) := by decide +kernel
theorem dX11_feed_62 : decode cX11_feed 62 = .ok (.ireturn, 1) := by decide +kernel
theorem dX11_end_0 : decode cX11_end 0 = .ok (.iload_n 1, 1) := by decide +kernel
theorem dX11_end_1 : decode cX11_end 1 = .ok (.iconst 0, 1) := by decide +kernel
theorem dX11_end_2 : decode cX11_end 2 = .ok (.aload_n 0, 1) := by decide +kernel
theorem dX11_end_3 : decode cX11_end 3 = .ok (.getfield 19, 3) := by decide +kernel
theorem dX11_end_6 : decode cX11_end 6 = .ok (.getfield 92, 3) := by decide +kernel
theorem dX11_end_9 : decode cX11_end 9 = .ok (.getfield 96, 3) := by decide +kernel
theorem dX11_end_12 : decode cX11_end 12 = .ok (.invokestatic 51, 3) := by decide +kernel
theorem dX11_end_15 : decode cX11_end 15 = .ok (.ifCond .ne 5, 3) := by decide +kernel
theorem dX11_end_18 : decode cX11_end 18 = .ok (.iconst 0, 1) := by decide +kernel
theorem dX11_end_19 : decode cX11_end 19 = .ok (.ireturn, 1) := by decide +kernel
theorem dX11_end_20 : decode cX11_end 20 = .ok (.aload_n 0, 1) := by decide +kernel
theorem dX11_end_21 : decode cX11_end 21 = .ok (.getfield 19, 3) := by decide +kernel
theorem dX11_end_24 : decode cX11_end 24 = .ok (.getfield 92, 3) := by decide +kernel
theorem dX11_end_27 : decode cX11_end 27 = .ok (.iload_n 1, 1) := by decide +kernel
theorem dX11_end_28 : decode cX11_end 28 = .ok (.putfield 96, 3) := by decide +kernel
theorem dX11_end_31 : decode cX11_end 31 = .ok (.iconst 1, 1) := by decide +kernel
theorem dX11_end_32 : decode cX11_end 32 = .ok (.ireturn, 1) := by decide +kernel
theorem dX11_text_0 : decode cX11_text 0 = .ok (.aload_n 0, 1) := by decide +kernel
theorem dX11_text_1 : decode cX11_text 1 = .ok (.getfield 19, 3) := by decide +kernel
theorem dX11_text_4 : decode cX11_text 4 = .ok (.invokevirtual 105, 3) := by decide +kernel
theorem dX11_text_7 : decode cX11_text 7 = .ok (.aload_n 0, 1) := by decide +kernel
theorem dX11_text_8 : decode cX11_text 8 = .ok (.getfield 10, 3) := by decide +kernel
theorem dX11_text_11 : decode cX11_text 11 = .ok (.iload_n 2, 1) := by decide +kernel
theorem dX11_text_12 : decode cX11_text 12 = .ok (.invokevirtual 80, 3) := by decide +kernel
theorem dX11_text_15 : decode cX11_text 15 = .ok (.astore_n 3, 1) := by decide +kernel
theorem dX11_text_16 : decode cX11_text 16 = .ok (.iconst (-1), 1) := by decide +kernel
theorem dX11_text_17 : decode cX11_text 17 = .ok (.istore 4, 2) := by decide +kernel
theorem dX11_text_19 : decode cX11_text 19 = .ok (.iload_n 1, 1) := by decide +kernel
theorem dX11_text_20 : decode cX11_text 20 = .ok (.ifCond .ne 32, 3) := by decide +kernel
theorem dX11_text_23 : decode cX11_text 23 = .ok (.aload_n 0, 1) := by decide +kernel
theorem dX11_text_24 : decode cX11_text 24 = .ok (.getfield 19, 3) := by decide +kernel
theorem dX11_text_27 : decode cX11_text 27 = .ok (.ldc 108, 2) := by decide +kernel
theorem dX11_text_29 : decode cX11_text 29 = .ok (.iconst 4, 1) := by decide +kernel
theorem dX11_text_30 : decode cX11_text 30 = .ok (.invokevirtual 110, 3) := by decide +kernel
theorem dX11_text_33 : decode cX11_text 33 = .ok (.ifCond .eq 19, 3) := by decide +kernel
theorem dX11_text_36 : decode cX11_text 36 = .ok (.aload_n 0, 1) := by decide +kernel
theorem dX11_text_37 : decode cX11_text 37 = .ok (.aload_n 0, 1) := by decide +kernel
theorem dX11_text_38 : decode cX11_text 38 = .ok (.getfield 10, 3) := by decide +kernel
theorem dX11_text_41 : decode cX11_text 41 = .ok (.getfield 114, 3) := by decide +kernel
theorem dX11_text_44 : decode cX11_text 44 = .ok (.invokevirtual 118, 3) := by decide +kernel
theorem dX11_text_47 : decode cX11_text 47 = .ok (.istore 4, 2) := by decide +kernel
theorem dX11_text_49 : decode cX11_text 49 = .ok (.goto 104, 3) := by decide +kernel
theorem dX11_text_52 : decode cX11_text 52 = .ok (.iload_n 1, 1) := by decide +kernel
theorem dX11_text_53 : decode cX11_text 53 = .ok (.iconst 1, 1) := by decide +kernel
theorem dX11_text_54 : decode cX11_text 54 = .ok (.if_icmp .ne 32, 3) := by decide +kernel
theorem dX11_text_57 : decode cX11_text 57 = .ok (.aload_n 0, 1) := by decide +kernel
theorem dX11_text_58 : decode cX11_text 58 = .ok (.getfield 19, 3) := by decide +kernel
theorem dX11_text_61 : decode cX11_text 61 = .ok (.ldc 122, 2) := by decide +kernel
theorem dX11_text_63 : decode cX11_text 63 = .ok (.iconst 3, 1) := by decide +kernel
theorem dX11_text_64 : decode cX11_text 64 = .ok (.invokevirtual 110, 3) := by decide +kernel
theorem dX11_text_67 : decode cX11_text 67 = .ok (.ifCond .eq 19, 3) := by decide +kernel
theorem dX11_text_70 : decode cX11_text 70 = .ok (.aload_n 0, 1) := by decide +kernel
theorem dX11_text_71 : decode cX11_text 71 = .ok (.aload_n 0, 1) := by decide +kernel
theorem dX11_text_72 : decode cX11_text 72 = .ok (.getfield 10, 3) := by decide +kernel
theorem dX11_text_75 : decode cX11_text 75 = .ok (.getfield 124, 3) := by decide +kernel
theorem dX11_text_78 : decode cX11_text 78 = .ok (.invokevirtual 118, 3) := by decide +kernel
theorem dX11_text_81 : decode cX11_text 81 = .ok (.istore 4, 2) := by decide +kernel
theorem dX11_text_83 : decode cX11_text 83 = .ok (.goto 70, 3) := by decide +kernel
theorem dX11_text_86 : decode cX11_text 86 = .ok (.iload_n 1, 1) := by decide +kernel
theorem dX11_text_87 : decode cX11_text 87 = .ok (.iconst 2, 1) := by decide +kernel
theorem dX11_text_88 : decode cX11_text 88 = .ok (.if_icmp .ne 34, 3) := by decide +kernel
theorem dX11_text_91 : decode cX11_text 91 = .ok (.aload_n 3, 1) := by decide +kernel
theorem dX11_text_92 : decode cX11_text 92 = .ok (.ifnull 30, 3) := by decide +kernel
theorem dX11_text_95 : decode cX11_text 95 = .ok (.aload_n 0, 1) := by decide +kernel
theorem dX11_text_96 : decode cX11_text 96 = .ok (.getfield 19, 3) := by decide +kernel
theorem dX11_text_99 : decode cX11_text 99 = .ok (.aload_n 0, 1) := by decide +kernel
theorem dX11_text_100 : decode cX11_text 100 = .ok (.getfield 10, 3) := by decide +kernel
theorem dX11_text_103 : decode cX11_text 103 = .ok (.getfield 55, 3) := by decide +kernel
theorem dX11_text_106 : decode cX11_text 106 = .ok (.invokevirtual 126, 3) := by decide +kernel
theorem dX11_text_109 : decode cX11_text 109 = .ok (.ifCond .eq 13, 3) := by decide +kernel
theorem dX11_text_112 : decode cX11_text 112 = .ok (.aload_n 0, 1) := by decide +kernel
theorem dX11_text_113 : decode cX11_text 113 = .ok (.aload_n 3, 1) := by decide +kernel
theorem dX11_text_114 : decode cX11_text 114 = .ok (.invokevirtual 130, 3) := by decide +kernel
theorem dX11_text_117 : decode cX11_text 117 = .ok (.istore 4, 2) := by decide +kernel
theorem dX11_text_119 : decode cX11_text 119 = .ok (.goto 34, 3) := by decide +kernel
theorem dX11_text_122 : decode cX11_text 122 = .ok (.iload_n 1, 1) := by decide +kernel
theorem dX11_text_123 : decode cX11_text 123 = .ok (.iconst 3, 1) := by decide +kernel
theorem dX11_text_124 : decode cX11_text 124 = .ok (.if_icmp .ne 29, 3) := by decide +kernel
theorem dX11_text_127 : decode cX11_text 127 = .ok (.aload_n 0, 1) := by decide +kernel
theorem dX11_text_128 : decode cX11_text 128 = .ok (.getfield 19, 3) := by decide +kernel
theorem dX11_text_131 : decode cX11_text 131 = .ok (.ldc 134, 2) := by decide +kernel
theorem dX11_text_133 : decode cX11_text 133 = .ok (.iconst 2, 1) := by decide +kernel
theorem dX11_text_134 : decode cX11_text 134 = .ok (.invokevirtual 110, 3) := by decide +kernel
theorem dX11_text_137 : decode cX11_text 137 = .ok (.ifCond .eq 16, 3) := by decide +kernel
theorem dX11_text_140 : decode cX11_text 140 = .ok (.aload_n 0, 1) := by decide +kernel
theorem dX11_text_141 : decode cX11_text 141 = .ok (.aload_n 0, 1) := by decide +kernel
theorem dX11_text_142 : decode cX11_text 142 = .ok (.getfield 10, 3) := by decide +kernel
theorem dX11_text_145 : decode cX11_text 145 = .ok (.getfield 136, 3) := by decide +kernel
theorem dX11_text_148 : decode cX11_text 148 = .ok (.invokevirtual 118, 3) := by decide +kernel
theorem dX11_text_151 : decode cX11_text 151 = .ok (.istore 4, 2) := by decide +kernel
theorem dX11_text_153 : decode cX11_text 153 = .ok (.aload_n 0, 1) := by decide +kernel
theorem dX11_text_154 : decode cX11_text 154 = .ok (.getfield 19, 3) := by decide +kernel
theorem dX11_text_157 : decode cX11_text 157 = .ok (.getfield 92, 3) := by decide +kernel
theorem dX11_text_160 : decode cX11_text 160 = .ok (.iconst 0, 1) := by decide +kernel
theorem dX11_text_161 : decode cX11_text 161 = .ok (.putfield 96, 3) := by decide +kernel
theorem dX11_text_164 : decode cX11_text 164 = .ok (.iload 4, 2) := by decide +kernel
theorem dX11_text_166 : decode cX11_text 166 = .ok (.ireturn, 1) := by decide +kernel
theorem dX11_keepLaw_0 : decode cX11_keepLaw 0 = .ok (.aload_n 1, 1) := by decide +kernel
theorem dX11_keepLaw_1 : decode cX11_keepLaw 1 = .ok (.aload_n 0, 1) := by decide +kernel
theorem dX11_keepLaw_2 : decode cX11_keepLaw 2 = .ok (.getfield 19, 3) := by decide +kernel
theorem dX11_keepLaw_5 : decode cX11_keepLaw 5 = .ok (.getfield 139, 3) := by decide +kernel
theorem dX11_keepLaw_8 : decode cX11_keepLaw 8 = .ok (.invokevirtual 141, 3) := by decide +kernel
theorem dX11_keepLaw_11 : decode cX11_keepLaw 11 = .ok (.aload_n 1, 1) := by decide +kernel
theorem dX11_keepLaw_12 : decode cX11_keepLaw 12 = .ok (.getfield 147, 3) := by decide +kernel
theorem dX11_keepLaw_15 : decode cX11_keepLaw 15 = .ok (.ireturn, 1) := by decide +kernel
theorem dX11_keepPlan_0 : decode cX11_keepPlan 0 = .ok (.aload_n 0, 1) := by decide +kernel
theorem dX11_keepPlan_1 : decode cX11_keepPlan 1 = .ok (.getfield 19, 3) := by decide +kernel
theorem dX11_keepPlan_4 : decode cX11_keepPlan 4 = .ok (.getfield 150, 3) := by decide +kernel
theorem dX11_keepPlan_7 : decode cX11_keepPlan 7 = .ok (.iconst 0, 1) := by decide +kernel
theorem dX11_keepPlan_8 : decode cX11_keepPlan 8 = .ok (.aload_n 1, 1) := by decide +kernel
theorem dX11_keepPlan_9 : decode cX11_keepPlan 9 = .ok (.getfield 154, 3) := by decide +kernel
theorem dX11_keepPlan_12 : decode cX11_keepPlan 12 = .ok (.iconst 0, 1) := by decide +kernel
theorem dX11_keepPlan_13 : decode cX11_keepPlan 13 = .ok (.aload_n 1, 1) := by decide +kernel
theorem dX11_keepPlan_14 : decode cX11_keepPlan 14 = .ok (.getfield 154, 3) := by decide +kernel
theorem dX11_keepPlan_17 : decode cX11_keepPlan 17 = .ok (.arraylength, 1) := by decide +kernel
theorem dX11_keepPlan_18 : decode cX11_keepPlan 18 = .ok (.invokestatic 156, 3) := by decide +kernel
theorem dX11_keepPlan_21 : decode cX11_keepPlan 21 = .ok (.aload_n 1, 1) := by decide +kernel
theorem dX11_keepPlan_22 : decode cX11_keepPlan 22 = .ok (.aload_n 0, 1) := by decide +kernel
theorem dX11_keepPlan_23 : decode cX11_keepPlan 23 = .ok (.getfield 19, 3) := by decide +kernel
theorem dX11_keepPlan_26 : decode cX11_keepPlan 26 = .ok (.getfield 162, 3) := by decide +kernel
theorem dX11_keepPlan_29 : decode cX11_keepPlan 29 = .ok (.putfield 165, 3) := by decide +kernel
theorem dX11_keepPlan_32 : decode cX11_keepPlan 32 = .ok (.aload_n 1, 1) := by decide +kernel
theorem dX11_keepPlan_33 : decode cX11_keepPlan 33 = .ok (.iconst 0, 1) := by decide +kernel
theorem dX11_keepPlan_34 : decode cX11_keepPlan 34 = .ok (.putfield 167, 3) := by decide +kernel
theorem dX11_keepPlan_37 : decode cX11_keepPlan 37 = .ok (.aload_n 0, 1) := by decide +kernel
theorem dX11_keepPlan_38 : decode cX11_keepPlan 38 = .ok (.getfield 40, 3) := by decide +kernel
theorem dX11_keepPlan_41 : decode cX11_keepPlan 41 = .ok (.invokevirtual 48, 3) := by decide +kernel
theorem dX11_keepPlan_44 : decode cX11_keepPlan 44 = .ok (.aload_n 1, 1) := by decide +kernel
theorem dX11_keepPlan_45 : decode cX11_keepPlan 45 = .ok (.getfield 165, 3) := by decide +kernel
theorem dX11_keepPlan_48 : decode cX11_keepPlan 48 = .ok (.ireturn, 1) := by decide +kernel
theorem dX11_fault_0 : decode cX11_fault 0 = .ok (.iload_n 1, 1) := by decide +kernel
theorem dX11_fault_1 : decode cX11_fault 1 = .ok (.ifCond .ne 11, 3) := by decide +kernel
theorem dX11_fault_4 : decode cX11_fault 4 = .ok (.aload_n 0, 1) := by decide +kernel
theorem dX11_fault_5 : decode cX11_fault 5 = .ok (.getfield 19, 3) := by decide +kernel
theorem dX11_fault_8 : decode cX11_fault 8 = .ok (.getfield 170, 3) := by decide +kernel
theorem dX11_fault_11 : decode cX11_fault 11 = .ok (.ireturn, 1) := by decide +kernel
theorem dX11_fault_12 : decode cX11_fault 12 = .ok (.iload_n 1, 1) := by decide +kernel
theorem dX11_fault_13 : decode cX11_fault 13 = .ok (.iconst 1, 1) := by decide +kernel
theorem dX11_fault_14 : decode cX11_fault 14 = .ok (.if_icmp .ne 13, 3) := by decide +kernel
theorem dX11_fault_17 : decode cX11_fault 17 = .ok (.aload_n 0, 1) := by decide +kernel
theorem dX11_fault_18 : decode cX11_fault 18 = .ok (.getfield 19, 3) := by decide +kernel
theorem dX11_fault_21 : decode cX11_fault 21 = .ok (.getfield 173, 3) := by decide +kernel
theorem dX11_fault_24 : decode cX11_fault 24 = .ok (.goto 4, 3) := by decide +kernel
theorem dX11_fault_27 : decode cX11_fault 27 = .ok (.iconst (-1), 1) := by decide +kernel
theorem dX11_fault_28 : decode cX11_fault 28 = .ok (.ireturn, 1) := by decide +kernel
theorem dX11_gust_0 : decode cX11_gust 0 = .ok (.iload_n 1, 1) := by decide +kernel
theorem dX11_gust_1 : decode cX11_gust 1 = .ok (.bipush (-100), 2) := by decide +kernel
theorem dX11_gust_3 : decode cX11_gust 3 = .ok (.if_icmp .ne 13, 3) := by decide +kernel
theorem dX11_gust_6 : decode cX11_gust 6 = .ok (.aload_n 0, 1) := by decide +kernel
theorem dX11_gust_7 : decode cX11_gust 7 = .ok (.getfield 10, 3) := by decide +kernel
theorem dX11_gust_10 : decode cX11_gust 10 = .ok (.iconst 0, 1) := by decide +kernel
theorem dX11_gust_11 : decode cX11_gust 11 = .ok (.putfield 176, 3) := by decide +kernel
theorem dX11_gust_14 : decode cX11_gust 14 = .ok (.iconst 0, 1) := by decide +kernel
theorem dX11_gust_15 : decode cX11_gust 15 = .ok (.ireturn, 1) := by decide +kernel
theorem dX11_gust_16 : decode cX11_gust 16 = .ok (.iload_n 1, 1) := by decide +kernel
theorem dX11_gust_17 : decode cX11_gust 17 = .ok (.bipush (-29), 2) := by decide +kernel
theorem dX11_gust_19 : decode cX11_gust 19 = .ok (.bipush 29, 2) := by decide +kernel
theorem dX11_gust_21 : decode cX11_gust 21 = .ok (.invokestatic 51, 3) := by decide +kernel
theorem dX11_gust_24 : decode cX11_gust 24 = .ok (.ifCond .eq 15, 3) := by decide +kernel
theorem dX11_gust_27 : decode cX11_gust 27 = .ok (.aload_n 0, 1) := by decide +kernel
theorem dX11_gust_28 : decode cX11_gust 28 = .ok (.getfield 10, 3) := by decide +kernel
theorem dX11_gust_31 : decode cX11_gust 31 = .ok (.getfield 176, 3) := by decide +kernel
theorem dX11_gust_34 : decode cX11_gust 34 = .ok (.bipush 60, 2) := by decide +kernel
theorem dX11_gust_36 : decode cX11_gust 36 = .ok (.if_icmp .lt 5, 3) := by decide +kernel
theorem dX11_gust_39 : decode cX11_gust 39 = .ok (.iconst (-1), 1) := by decide +kernel
theorem dX11_gust_40 : decode cX11_gust 40 = .ok (.ireturn, 1) := by decide +kernel
theorem dX11_gust_41 : decode cX11_gust 41 = .ok (.aload_n 0, 1) := by decide +kernel
theorem dX11_gust_42 : decode cX11_gust 42 = .ok (.getfield 10, 3) := by decide +kernel
theorem dX11_gust_45 : decode cX11_gust 45 = .ok (.getfield 179, 3) := by decide +kernel
theorem dX11_gust_48 : decode cX11_gust 48 = .ok (.aload_n 0, 1) := by decide +kernel
theorem dX11_gust_49 : decode cX11_gust 49 = .ok (.getfield 10, 3) := by decide +kernel
theorem dX11_gust_52 : decode cX11_gust 52 = .ok (.getfield 176, 3) := by decide +kernel
theorem dX11_gust_55 : decode cX11_gust 55 = .ok (.iload_n 1, 1) := by decide +kernel
theorem dX11_gust_56 : decode cX11_gust 56 = .ok (.iastore, 1) := by decide +kernel
theorem dX11_gust_57 : decode cX11_gust 57 = .ok (.aload_n 0, 1) := by decide +kernel
theorem dX11_gust_58 : decode cX11_gust 58 = .ok (.getfield 10, 3) := by decide +kernel
theorem dX11_gust_61 : decode cX11_gust 61 = .ok (.dup, 1) := by decide +kernel
theorem dX11_gust_62 : decode cX11_gust 62 = .ok (.getfield 176, 3) := by decide +kernel
theorem dX11_gust_65 : decode cX11_gust 65 = .ok (.iconst 1, 1) := by decide +kernel
theorem dX11_gust_66 : decode cX11_gust 66 = .ok (.iadd, 1) := by decide +kernel
theorem dX11_gust_67 : decode cX11_gust 67 = .ok (.putfield 176, 3) := by decide +kernel
theorem dX11_gust_70 : decode cX11_gust 70 = .ok (.aload_n 0, 1) := by decide +kernel
theorem dX11_gust_71 : decode cX11_gust 71 = .ok (.getfield 10, 3) := by decide +kernel
theorem dX11_gust_74 : decode cX11_gust 74 = .ok (.getfield 176, 3) := by decide +kernel
theorem dX11_gust_77 : decode cX11_gust 77 = .ok (.ireturn, 1) := by decide +kernel
theorem dX11_throwIt_0 : decode cX11_throwIt 0 = .ok (.aload_n 0, 1) := by decide +kernel
theorem dX11_throwIt_1 : decode cX11_throwIt 1 = .ok (.getfield 10, 3) := by decide +kernel
theorem dX11_throwIt_4 : decode cX11_throwIt 4 = .ok (.invokevirtual 182, 3) := by decide +kernel
theorem dX11_throwIt_7 : decode cX11_throwIt 7 = .ok (.astore 5, 2) := by decide +kernel
theorem dX11_throwIt_9 : decode cX11_throwIt 9 = .ok (.aload 5, 2) := by decide +kernel
theorem dX11_throwIt_11 : decode cX11_throwIt 11 = .ok (.ifnull 35, 3) := by decide +kernel
theorem dX11_throwIt_14 : decode cX11_throwIt 14 = .ok (.aload 5, 2) := by decide +kernel
theorem dX11_throwIt_16 : decode cX11_throwIt 16 = .ok (.getfield 89, 3) := by decide +kernel
theorem dX11_throwIt_19 : decode cX11_throwIt 19 = .ok (.sipush 1000, 3) := by decide +kernel
theorem dX11_throwIt_22 : decode cX11_throwIt 22 = .ok (.if_icmp .ge 24, 3) := by decide +kernel
theorem dX11_throwIt_25 : decode cX11_throwIt 25 = .ok (.aload_n 0, 1) := by decide +kernel
theorem dX11_throwIt_26 : decode cX11_throwIt 26 = .ok (.iload_n 1, 1) := by decide +kernel
theorem dX11_throwIt_27 : decode cX11_throwIt 27 = .ok (.iload_n 2, 1) := by decide +kernel
theorem dX11_throwIt_28 : decode cX11_throwIt 28 = .ok (.iload_n 3, 1) := by decide +kernel
theorem dX11_throwIt_29 : decode cX11_throwIt 29 = .ok (.invokevirtual 186, 3) := by decide +kernel
theorem dX11_throwIt_32 : decode cX11_throwIt 32 = .ok (.ifCond .eq 14, 3) := by decide +kernel
theorem dX11_throwIt_35 : decode cX11_throwIt 35 = .ok (.iload 4, 2) := by decide +kernel
theorem dX11_throwIt_37 : decode cX11_throwIt 37 = .ok (.iconst 0, 1) := by decide +kernel
theorem dX11_throwIt_38 : decode cX11_throwIt 38 = .ok (.bipush 9, 2) := by decide +kernel
theorem dX11_throwIt_40 : decode cX11_throwIt 40 = .ok (.invokestatic 51, 3) := by decide +kernel
theorem dX11_throwIt_43 : decode cX11_throwIt 43 = .ok (.ifCond .ne 5, 3) := by decide +kernel
theorem dX11_throwIt_46 : decode cX11_throwIt 46 = .ok (.iconst (-1), 1) := by decide +kernel
theorem dX11_throwIt_47 : decode cX11_throwIt 47 = .ok (.ireturn, 1) := by decide +kernel
theorem dX11_throwIt_48 : decode cX11_throwIt 48 = .ok (.aload_n 0, 1) := by decide +kernel
theorem dX11_throwIt_49 : decode cX11_throwIt 49 = .ok (.aload 5, 2) := by decide +kernel
theorem dX11_throwIt_51 : decode cX11_throwIt 51 = .ok (.iload_n 1, 1) := by decide +kernel
theorem dX11_throwIt_52 : decode cX11_throwIt 52 = .ok (.iload_n 2, 1) := by decide +kernel
theorem dX11_throwIt_53 : decode cX11_throwIt 53 = .ok (.iload_n 3, 1) := by decide +kernel
theorem dX11_throwIt_54 : decode cX11_throwIt 54 = .ok (.iload 4, 2) := by decide +kernel
theorem dX11_throwIt_56 : decode cX11_throwIt 56 = .ok (.invokevirtual 189, 3) := by decide +kernel
theorem dX11_throwIt_59 : decode cX11_throwIt 59 = .ok (.ireturn, 1) := by decide +kernel
theorem dX11_canThrow_0 : decode cX11_canThrow 0 = .ok (.iload_n 1, 1) := by decide +kernel
theorem dX11_canThrow_1 : decode cX11_canThrow 1 = .ok (.iconst 0, 1) := by decide +kernel
theorem dX11_canThrow_2 : decode cX11_canThrow 2 = .ok (.bipush 99, 2) := by decide +kernel
theorem dX11_canThrow_4 : decode cX11_canThrow 4 = .ok (.invokestatic 51, 3) := by decide +kernel
theorem dX11_canThrow_7 : decode cX11_canThrow 7 = .ok (.ifCond .eq 28, 3) := by decide +kernel
theorem dX11_canThrow_10 : decode cX11_canThrow 10 = .ok (.iload_n 2, 1) := by decide +kernel
theorem dX11_canThrow_11 : decode cX11_canThrow 11 = .ok (.iconst 0, 1) := by decide +kernel
theorem dX11_canThrow_12 : decode cX11_canThrow 12 = .ok (.bipush 60, 2) := by decide +kernel
theorem dX11_canThrow_14 : decode cX11_canThrow 14 = .ok (.invokestatic 51, 3) := by decide +kernel
theorem dX11_canThrow_17 : decode cX11_canThrow 17 = .ok (.ifCond .eq 18, 3) := by decide +kernel
theorem dX11_canThrow_20 : decode cX11_canThrow 20 = .ok (.aload_n 0, 1) := by decide +kernel
theorem dX11_canThrow_21 : decode cX11_canThrow 21 = .ok (.getfield 10, 3) := by decide +kernel
theorem dX11_canThrow_24 : decode cX11_canThrow 24 = .ok (.iload_n 3, 1) := by decide +kernel
theorem dX11_canThrow_25 : decode cX11_canThrow 25 = .ok (.invokevirtual 193, 3) := by decide +kernel
theorem dX11_canThrow_28 : decode cX11_canThrow 28 = .ok (.ifCond .eq 7, 3) := by decide +kernel
theorem dX11_canThrow_31 : decode cX11_canThrow 31 = .ok (.iconst 1, 1) := by decide +kernel
theorem dX11_canThrow_32 : decode cX11_canThrow 32 = .ok (.goto 4, 3) := by decide +kernel
theorem dX11_canThrow_35 : decode cX11_canThrow 35 = .ok (.iconst 0, 1) := by decide +kernel
theorem dX11_canThrow_36 : decode cX11_canThrow 36 = .ok (.ireturn, 1) := by decide +kernel
theorem dX11_hurl_0 : decode cX11_hurl 0 = .ok (.aload_n 0, 1) := by decide +kernel
theorem dX11_hurl_1 : decode cX11_hurl 1 = .ok (.getfield 40, 3) := by decide +kernel
theorem dX11_hurl_4 : decode cX11_hurl 4 = .ok (.aload_n 0, 1) := by decide +kernel
theorem dX11_hurl_5 : decode cX11_hurl 5 = .ok (.getfield 10, 3) := by decide +kernel
theorem dX11_hurl_8 : decode cX11_hurl 8 = .ok (.aload_n 1, 1) := by decide +kernel
theorem dX11_hurl_9 : decode cX11_hurl 9 = .ok (.invokevirtual 196, 3) := by decide +kernel
theorem dX11_hurl_12 : decode cX11_hurl 12 = .ok (.iload_n 2, 1) := by decide +kernel
theorem dX11_hurl_13 : decode cX11_hurl 13 = .ok (.iload 5, 2) := by decide +kernel
theorem dX11_hurl_15 : decode cX11_hurl 15 = .ok (.iadd, 1) := by decide +kernel
theorem dX11_hurl_16 : decode cX11_hurl 16 = .ok (.aload_n 1, 1) := by decide +kernel
theorem dX11_hurl_17 : decode cX11_hurl 17 = .ok (.getfield 84, 3) := by decide +kernel
theorem dX11_hurl_20 : decode cX11_hurl 20 = .ok (.invokestatic 200, 3) := by decide +kernel
theorem dX11_hurl_23 : decode cX11_hurl 23 = .ok (.istore 6, 2) := by decide +kernel
theorem dX11_hurl_25 : decode cX11_hurl 25 = .ok (.aload_n 0, 1) := by decide +kernel
theorem dX11_hurl_26 : decode cX11_hurl 26 = .ok (.getfield 33, 3) := by decide +kernel
theorem dX11_hurl_29 : decode cX11_hurl 29 = .ok (.aload_n 1, 1) := by decide +kernel
theorem dX11_hurl_30 : decode cX11_hurl 30 = .ok (.aload_n 0, 1) := by decide +kernel
theorem dX11_hurl_31 : decode cX11_hurl 31 = .ok (.getfield 10, 3) := by decide +kernel
theorem dX11_hurl_34 : decode cX11_hurl 34 = .ok (.getfield 205, 3) := by decide +kernel
theorem dX11_hurl_37 : decode cX11_hurl 37 = .ok (.invokevirtual 208, 3) := by decide +kernel
theorem dX11_hurl_40 : decode cX11_hurl 40 = .ok (.aload_n 0, 1) := by decide +kernel
theorem dX11_hurl_41 : decode cX11_hurl 41 = .ok (.getfield 33, 3) := by decide +kernel
theorem dX11_hurl_44 : decode cX11_hurl 44 = .ok (.iload 6, 2) := by decide +kernel
theorem dX11_hurl_46 : decode cX11_hurl 46 = .ok (.iload 5, 2) := by decide +kernel
theorem dX11_hurl_48 : decode cX11_hurl 48 = .ok (.iload_n 3, 1) := by decide +kernel
theorem dX11_hurl_49 : decode cX11_hurl 49 = .ok (.invokevirtual 212, 3) := by decide +kernel
theorem dX11_hurl_52 : decode cX11_hurl 52 = .ok (.aload_n 0, 1) := by decide +kernel
theorem dX11_hurl_53 : decode cX11_hurl 53 = .ok (.getfield 33, 3) := by decide +kernel
theorem dX11_hurl_56 : decode cX11_hurl 56 = .ok (.aload_n 0, 1) := by decide +kernel
theorem dX11_hurl_57 : decode cX11_hurl 57 = .ok (.getfield 10, 3) := by decide +kernel
theorem dX11_hurl_60 : decode cX11_hurl 60 = .ok (.getfield 124, 3) := by decide +kernel
theorem dX11_hurl_63 : decode cX11_hurl 63 = .ok (.iconst 0, 1) := by decide +kernel
theorem dX11_hurl_64 : decode cX11_hurl 64 = .ok (.invokevirtual 216, 3) := by decide +kernel
theorem dX11_hurl_67 : decode cX11_hurl 67 = .ok (.istore 7, 2) := by decide +kernel
theorem dX11_hurl_69 : decode cX11_hurl 69 = .ok (.iload 7, 2) := by decide +kernel
theorem dX11_hurl_71 : decode cX11_hurl 71 = .ok (.ifCond .le 22, 3) := by decide +kernel
theorem dX11_hurl_74 : decode cX11_hurl 74 = .ok (.aload_n 0, 1) := by decide +kernel
theorem dX11_hurl_75 : decode cX11_hurl 75 = .ok (.getfield 10, 3) := by decide +kernel
theorem dX11_hurl_78 : decode cX11_hurl 78 = .ok (.sipush 1000, 3) := by decide +kernel
theorem dX11_hurl_81 : decode cX11_hurl 81 = .ok (.invokevirtual 219, 3) := by decide +kernel
theorem dX11_hurl_84 : decode cX11_hurl 84 = .ok (.iload 7, 2) := by decide +kernel
theorem dX11_hurl_86 : decode cX11_hurl 86 = .ok (.if_icmp .ge 7, 3) := by decide +kernel
theorem dX11_hurl_89 : decode cX11_hurl 89 = .ok (.iconst 1, 1) := by decide +kernel
theorem dX11_hurl_90 : decode cX11_hurl 90 = .ok (.goto 4, 3) := by decide +kernel
theorem dX11_hurl_93 : decode cX11_hurl 93 = .ok (.iconst 0, 1) := by decide +kernel
theorem dX11_hurl_94 : decode cX11_hurl 94 = .ok (.istore 8, 2) := by decide +kernel
theorem dX11_hurl_96 : decode cX11_hurl 96 = .ok (.iload_n 3, 1) := by decide +kernel
theorem dX11_hurl_97 : decode cX11_hurl 97 = .ok (.aload_n 0, 1) := by decide +kernel
theorem dX11_hurl_98 : decode cX11_hurl 98 = .ok (.getfield 10, 3) := by decide +kernel
theorem dX11_hurl_101 : decode cX11_hurl 101 = .ok (.aload_n 0, 1) := by decide +kernel
theorem dX11_hurl_102 : decode cX11_hurl 102 = .ok (.getfield 10, 3) := by decide +kernel
theorem dX11_hurl_105 : decode cX11_hurl 105 = .ok (.getfield 222, 3) := by decide +kernel
theorem dX11_hurl_108 : decode cX11_hurl 108 = .ok (.iconst 3, 1) := by decide +kernel
theorem dX11_hurl_109 : decode cX11_hurl 109 = .ok (.iaload, 1) := by decide +kernel
theorem dX11_hurl_110 : decode cX11_hurl 110 = .ok (.invokevirtual 225, 3) := by decide +kernel
theorem dX11_hurl_113 : decode cX11_hurl 113 = .ok (.iadd, 1) := by decide +kernel
theorem dX11_hurl_114 : decode cX11_hurl 114 = .ok (.iconst 0, 1) := by decide +kernel
theorem dX11_hurl_115 : decode cX11_hurl 115 = .ok (.bipush 90, 2) := by decide +kernel
theorem dX11_hurl_117 : decode cX11_hurl 117 = .ok (.invokestatic 228, 3) := by decide +kernel
theorem dX11_hurl_120 : decode cX11_hurl 120 = .ok (.istore 9, 2) := by decide +kernel
theorem dX11_hurl_122 : decode cX11_hurl 122 = .ok (.aload_n 0, 1) := by decide +kernel
theorem dX11_hurl_123 : decode cX11_hurl 123 = .ok (.getfield 10, 3) := by decide +kernel
theorem dX11_hurl_126 : decode cX11_hurl 126 = .ok (.getfield 222, 3) := by decide +kernel
theorem dX11_hurl_129 : decode cX11_hurl 129 = .ok (.iconst 0, 1) := by decide +kernel
theorem dX11_hurl_130 : decode cX11_hurl 130 = .ok (.iaload, 1) := by decide +kernel
theorem dX11_hurl_131 : decode cX11_hurl 131 = .ok (.aload_n 0, 1) := by decide +kernel
theorem dX11_hurl_132 : decode cX11_hurl 132 = .ok (.getfield 10, 3) := by decide +kernel
theorem dX11_hurl_135 : decode cX11_hurl 135 = .ok (.aload_n 0, 1) := by decide +kernel
theorem dX11_hurl_136 : decode cX11_hurl 136 = .ok (.getfield 10, 3) := by decide +kernel
theorem dX11_hurl_139 : decode cX11_hurl 139 = .ok (.getfield 222, 3) := by decide +kernel
theorem dX11_hurl_142 : decode cX11_hurl 142 = .ok (.iconst 2, 1) := by decide +kernel
theorem dX11_hurl_143 : decode cX11_hurl 143 = .ok (.iaload, 1) := by decide +kernel
theorem dX11_hurl_144 : decode cX11_hurl 144 = .ok (.invokevirtual 225, 3) := by decide +kernel
theorem dX11_hurl_147 : decode cX11_hurl 147 = .ok (.iadd, 1) := by decide +kernel
theorem dX11_hurl_148 : decode cX11_hurl 148 = .ok (.istore 10, 2) := by decide +kernel
theorem dX11_hurl_150 : decode cX11_hurl 150 = .ok (.aload_n 0, 1) := by decide +kernel
theorem dX11_hurl_151 : decode cX11_hurl 151 = .ok (.getfield 26, 3) := by decide +kernel
theorem dX11_hurl_154 : decode cX11_hurl 154 = .ok (.getfield 232, 3) := by decide +kernel
theorem dX11_hurl_157 : decode cX11_hurl 157 = .ok (.astore 11, 2) := by decide +kernel
theorem dX11_hurl_159 : decode cX11_hurl 159 = .ok (.aload 11, 2) := by decide +kernel
theorem dX11_hurl_161 : decode cX11_hurl 161 = .ok (.aload_n 0, 1) := by decide +kernel
theorem dX11_hurl_162 : decode cX11_hurl 162 = .ok (.getfield 10, 3) := by decide +kernel
theorem dX11_hurl_165 : decode cX11_hurl 165 = .ok (.iload 6, 2) := by decide +kernel
theorem dX11_hurl_167 : decode cX11_hurl 167 = .ok (.iload 9, 2) := by decide +kernel
theorem dX11_hurl_169 : decode cX11_hurl 169 = .ok (.iconst 0, 1) := by decide +kernel
theorem dX11_hurl_170 : decode cX11_hurl 170 = .ok (.iload 4, 2) := by decide +kernel
theorem dX11_hurl_172 : decode cX11_hurl 172 = .ok (.iload 10, 2) := by decide +kernel
theorem dX11_hurl_174 : decode cX11_hurl 174 = .ok (.aload_n 0, 1) := by decide +kernel
theorem dX11_hurl_175 : decode cX11_hurl 175 = .ok (.getfield 10, 3) := by decide +kernel
theorem dX11_hurl_178 : decode cX11_hurl 178 = .ok (.getfield 222, 3) := by decide +kernel
theorem dX11_hurl_181 : decode cX11_hurl 181 = .ok (.iconst 1, 1) := by decide +kernel
theorem dX11_hurl_182 : decode cX11_hurl 182 = .ok (.iaload, 1) := by decide +kernel
theorem dX11_hurl_183 : decode cX11_hurl 183 = .ok (.invokevirtual 235, 3) := by decide +kernel
theorem dX11_hurl_186 : decode cX11_hurl 186 = .ok (.aload 11, 2) := by decide +kernel
theorem dX11_hurl_188 : decode cX11_hurl 188 = .ok (.aload_n 0, 1) := by decide +kernel
theorem dX11_hurl_189 : decode cX11_hurl 189 = .ok (.getfield 10, 3) := by decide +kernel
theorem dX11_hurl_192 : decode cX11_hurl 192 = .ok (.getfield 114, 3) := by decide +kernel
theorem dX11_hurl_195 : decode cX11_hurl 195 = .ok (.sipush 400, 3) := by decide +kernel
theorem dX11_hurl_198 : decode cX11_hurl 198 = .ok (.invokevirtual 240, 3) := by decide +kernel
theorem dX11_hurl_201 : decode cX11_hurl 201 = .ok (.iload 8, 2) := by decide +kernel
theorem dX11_hurl_203 : decode cX11_hurl 203 = .ok (.ifCond .eq 7, 3) := by decide +kernel
theorem dX11_hurl_206 : decode cX11_hurl 206 = .ok (.iconst 1, 1) := by decide +kernel
theorem dX11_hurl_207 : decode cX11_hurl 207 = .ok (.goto 17, 3) := by decide +kernel
theorem dX11_hurl_210 : decode cX11_hurl 210 = .ok (.aload 11, 2) := by decide +kernel
theorem dX11_hurl_212 : decode cX11_hurl 212 = .ok (.aload_n 0, 1) := by decide +kernel
theorem dX11_hurl_213 : decode cX11_hurl 213 = .ok (.getfield 10, 3) := by decide +kernel
theorem dX11_hurl_216 : decode cX11_hurl 216 = .ok (.getfield 222, 3) := by decide +kernel
theorem dX11_hurl_219 : decode cX11_hurl 219 = .ok (.iconst 4, 1) := by decide +kernel
theorem dX11_hurl_220 : decode cX11_hurl 220 = .ok (.iaload, 1) := by decide +kernel
theorem dX11_hurl_221 : decode cX11_hurl 221 = .ok (.invokevirtual 244, 3) := by decide +kernel
theorem dX11_hurl_224 : decode cX11_hurl 224 = .ok (.istore 12, 2) := by decide +kernel
theorem dX11_hurl_226 : decode cX11_hurl 226 = .ok (.aload_n 1, 1) := by decide +kernel
theorem dX11_hurl_227 : decode cX11_hurl 227 = .ok (.sipush 1000, 3) := by decide +kernel
theorem dX11_hurl_230 : decode cX11_hurl 230 = .ok (.aload_n 1, 1) := by decide +kernel
theorem dX11_hurl_231 : decode cX11_hurl 231 = .ok (.getfield 89, 3) := by decide +kernel
theorem dX11_hurl_234 : decode cX11_hurl 234 = .ok (.aload_n 0, 1) := by decide +kernel
theorem dX11_hurl_235 : decode cX11_hurl 235 = .ok (.getfield 33, 3) := by decide +kernel
theorem dX11_hurl_238 : decode cX11_hurl 238 = .ok (.aload_n 0, 1) := by decide +kernel
theorem dX11_hurl_239 : decode cX11_hurl 239 = .ok (.getfield 10, 3) := by decide +kernel
theorem dX11_hurl_242 : decode cX11_hurl 242 = .ok (.getfield 124, 3) := by decide +kernel
theorem dX11_hurl_245 : decode cX11_hurl 245 = .ok (.iconst 1, 1) := by decide +kernel
theorem dX11_hurl_246 : decode cX11_hurl 246 = .ok (.invokevirtual 216, 3) := by decide +kernel
theorem dX11_hurl_249 : decode cX11_hurl 249 = .ok (.iadd, 1) := by decide +kernel
theorem dX11_hurl_250 : decode cX11_hurl 250 = .ok (.invokestatic 200, 3) := by decide +kernel
theorem dX11_hurl_253 : decode cX11_hurl 253 = .ok (.putfield 89, 3) := by decide +kernel
theorem dX11_hurl_256 : decode cX11_hurl 256 = .ok (.aload_n 1, 1) := by decide +kernel
theorem dX11_hurl_257 : decode cX11_hurl 257 = .ok (.dup, 1) := by decide +kernel
theorem dX11_hurl_258 : decode cX11_hurl 258 = .ok (.getfield 247, 3) := by decide +kernel
theorem dX11_hurl_261 : decode cX11_hurl 261 = .ok (.iconst 1, 1) := by decide +kernel
theorem dX11_hurl_262 : decode cX11_hurl 262 = .ok (.iadd, 1) := by decide +kernel
theorem dX11_hurl_263 : decode cX11_hurl 263 = .ok (.putfield 247, 3) := by decide +kernel
theorem dX11_hurl_266 : decode cX11_hurl 266 = .ok (.iload 12, 2) := by decide +kernel
theorem dX11_hurl_268 : decode cX11_hurl 268 = .ok (.ifCond .ne 19, 3) := by decide +kernel
theorem dX11_hurl_271 : decode cX11_hurl 271 = .ok (.aload_n 1, 1) := by decide +kernel
theorem dX11_hurl_272 : decode cX11_hurl 272 = .ok (.aload_n 1, 1) := by decide +kernel
theorem dX11_hurl_273 : decode cX11_hurl 273 = .ok (.getfield 250, 3) := by decide +kernel
theorem dX11_hurl_276 : decode cX11_hurl 276 = .ok (.aload 11, 2) := by decide +kernel
theorem dX11_hurl_278 : decode cX11_hurl 278 = .ok (.getfield 253, 3) := by decide +kernel
theorem dX11_hurl_281 : decode cX11_hurl 281 = .ok (.invokestatic 256, 3) := by decide +kernel
theorem dX11_hurl_284 : decode cX11_hurl 284 = .ok (.putfield 250, 3) := by decide +kernel
theorem dX11_hurl_287 : decode cX11_hurl 287 = .ok (.aload_n 0, 1) := by decide +kernel
theorem dX11_hurl_288 : decode cX11_hurl 288 = .ok (.getfield 10, 3) := by decide +kernel
theorem dX11_hurl_291 : decode cX11_hurl 291 = .ok (.iload 4, 2) := by decide +kernel
theorem dX11_hurl_293 : decode cX11_hurl 293 = .ok (.iload 6, 2) := by decide +kernel
theorem dX11_hurl_295 : decode cX11_hurl 295 = .ok (.iload 9, 2) := by decide +kernel
theorem dX11_hurl_297 : decode cX11_hurl 297 = .ok (.iload 10, 2) := by decide +kernel
theorem dX11_hurl_299 : decode cX11_hurl 299 = .ok (.aload 11, 2) := by decide +kernel
theorem dX11_hurl_301 : decode cX11_hurl 301 = .ok (.getfield 253, 3) := by decide +kernel
theorem dX11_hurl_304 : decode cX11_hurl 304 = .ok (.iload 12, 2) := by decide +kernel
theorem dX11_hurl_306 : decode cX11_hurl 306 = .ok (.invokevirtual 259, 3) := by decide +kernel
theorem dX11_hurl_309 : decode cX11_hurl 309 = .ok (.aload_n 0, 1) := by decide +kernel
theorem dX11_hurl_310 : decode cX11_hurl 310 = .ok (.getfield 10, 3) := by decide +kernel
theorem dX11_hurl_313 : decode cX11_hurl 313 = .ok (.invokevirtual 263, 3) := by decide +kernel
theorem dX11_hurl_316 : decode cX11_hurl 316 = .ok (.iload 12, 2) := by decide +kernel
theorem dX11_hurl_318 : decode cX11_hurl 318 = .ok (.ireturn, 1) := by decide +kernel
theorem dX11_pass_0 : decode cX11_pass 0 = .ok (.aload_n 0, 1) := by decide +kernel
theorem dX11_pass_1 : decode cX11_pass 1 = .ok (.getfield 10, 3) := by decide +kernel
theorem dX11_pass_4 : decode cX11_pass 4 = .ok (.invokevirtual 182, 3) := by decide +kernel
theorem dX11_pass_7 : decode cX11_pass 7 = .ok (.astore_n 1, 1) := by decide +kernel
theorem dX11_pass_8 : decode cX11_pass 8 = .ok (.aload_n 1, 1) := by decide +kernel
theorem dX11_pass_9 : decode cX11_pass 9 = .ok (.ifnonnull 5, 3) := by decide +kernel
theorem dX11_pass_12 : decode cX11_pass 12 = .ok (.iconst 0, 1) := by decide +kernel
theorem dX11_pass_13 : decode cX11_pass 13 = .ok (.ireturn, 1) := by decide +kernel
theorem dX11_pass_14 : decode cX11_pass 14 = .ok (.aload_n 0, 1) := by decide +kernel
theorem dX11_pass_15 : decode cX11_pass 15 = .ok (.getfield 40, 3) := by decide +kernel
theorem dX11_pass_18 : decode cX11_pass 18 = .ok (.aload_n 0, 1) := by decide +kernel
theorem dX11_pass_19 : decode cX11_pass 19 = .ok (.getfield 10, 3) := by decide +kernel
theorem dX11_pass_22 : decode cX11_pass 22 = .ok (.aload_n 1, 1) := by decide +kernel
theorem dX11_pass_23 : decode cX11_pass 23 = .ok (.invokevirtual 196, 3) := by decide +kernel
theorem dX11_pass_26 : decode cX11_pass 26 = .ok (.aload_n 0, 1) := by decide +kernel
theorem dX11_pass_27 : decode cX11_pass 27 = .ok (.getfield 10, 3) := by decide +kernel
theorem dX11_pass_30 : decode cX11_pass 30 = .ok (.invokevirtual 263, 3) := by decide +kernel
theorem dX11_pass_33 : decode cX11_pass 33 = .ok (.iconst 1, 1) := by decide +kernel
theorem dX11_pass_34 : decode cX11_pass 34 = .ok (.ireturn, 1) := by decide +kernel
theorem dX11_turnsGo_0 : decode cX11_turnsGo 0 = .ok (.iload_n 1, 1) := by decide +kernel
theorem dX11_turnsGo_1 : decode cX11_turnsGo 1 = .ok (.iconst 1, 1) := by decide +kernel
theorem dX11_turnsGo_2 : decode cX11_turnsGo 2 = .ok (.bipush 48, 2) := by decide +kernel
theorem dX11_turnsGo_4 : decode cX11_turnsGo 4 = .ok (.invokestatic 51, 3) := by decide +kernel
theorem dX11_turnsGo_7 : decode cX11_turnsGo 7 = .ok (.ifCond .eq 13, 3) := by decide +kernel
theorem dX11_turnsGo_10 : decode cX11_turnsGo 10 = .ok (.aload_n 0, 1) := by decide +kernel
theorem dX11_turnsGo_11 : decode cX11_turnsGo 11 = .ok (.getfield 10, 3) := by decide +kernel
theorem dX11_turnsGo_14 : decode cX11_turnsGo 14 = .ok (.invokevirtual 182, 3) := by decide +kernel
theorem dX11_turnsGo_17 : decode cX11_turnsGo 17 = .ok (.ifnonnull 5, 3) := by decide +kernel
theorem dX11_turnsGo_20 : decode cX11_turnsGo 20 = .ok (.iconst (-1), 1) := by decide +kernel
theorem dX11_turnsGo_21 : decode cX11_turnsGo 21 = .ok (.ireturn, 1) := by decide +kernel
theorem dX11_turnsGo_22 : decode cX11_turnsGo 22 = .ok (.iconst 0, 1) := by decide +kernel
theorem dX11_turnsGo_23 : decode cX11_turnsGo 23 = .ok (.istore_n 2, 1) := by decide +kernel
theorem dX11_turnsGo_24 : decode cX11_turnsGo 24 = .ok (.iconst 0, 1) := by decide +kernel
theorem dX11_turnsGo_25 : decode cX11_turnsGo 25 = .ok (.istore_n 3, 1) := by decide +kernel
theorem dX11_turnsGo_26 : decode cX11_turnsGo 26 = .ok (.iload_n 3, 1) := by decide +kernel
theorem dX11_turnsGo_27 : decode cX11_turnsGo 27 = .ok (.iload_n 1, 1) := by decide +kernel
theorem dX11_turnsGo_28 : decode cX11_turnsGo 28 = .ok (.if_icmp .ge 35, 3) := by decide +kernel
theorem dX11_turnsGo_31 : decode cX11_turnsGo 31 = .ok (.aload_n 0, 1) := by decide +kernel
theorem dX11_turnsGo_32 : decode cX11_turnsGo 32 = .ok (.getfield 10, 3) := by decide +kernel
theorem dX11_turnsGo_35 : decode cX11_turnsGo 35 = .ok (.invokevirtual 182, 3) := by decide +kernel
theorem dX11_turnsGo_38 : decode cX11_turnsGo 38 = .ok (.astore 4, 2) := by decide +kernel
theorem dX11_turnsGo_40 : decode cX11_turnsGo 40 = .ok (.aload 4, 2) := by decide +kernel
theorem dX11_turnsGo_42 : decode cX11_turnsGo 42 = .ok (.ifnull 15, 3) := by decide +kernel
theorem dX11_turnsGo_45 : decode cX11_turnsGo 45 = .ok (.aload_n 0, 1) := by decide +kernel
theorem dX11_turnsGo_46 : decode cX11_turnsGo 46 = .ok (.aload 4, 2) := by decide +kernel
theorem dX11_turnsGo_48 : decode cX11_turnsGo 48 = .ok (.invokevirtual 266, 3) := by decide +kernel
theorem dX11_turnsGo_51 : decode cX11_turnsGo 51 = .ok (.ifCond .eq 6, 3) := by decide +kernel
theorem dX11_turnsGo_54 : decode cX11_turnsGo 54 = .ok (.iinc 2 1, 3) := by decide +kernel
theorem dX11_turnsGo_57 : decode cX11_turnsGo 57 = .ok (.iinc 3 1, 3) := by decide +kernel
theorem dX11_turnsGo_60 : decode cX11_turnsGo 60 = .ok (.goto (-34), 3) := by decide +kernel
theorem dX11_turnsGo_63 : decode cX11_turnsGo 63 = .ok (.iload_n 2, 1) := by decide +kernel
theorem dX11_turnsGo_64 : decode cX11_turnsGo 64 = .ok (.ireturn, 1) := by decide +kernel
theorem dX11_turnByPlan_0 : decode cX11_turnByPlan 0 = .ok (.aload_n 1, 1) := by decide +kernel
theorem dX11_turnByPlan_1 : decode cX11_turnByPlan 1 = .ok (.getfield 167, 3) := by decide +kernel
theorem dX11_turnByPlan_4 : decode cX11_turnByPlan 4 = .ok (.istore_n 2, 1) := by decide +kernel
theorem dX11_turnByPlan_5 : decode cX11_turnByPlan 5 = .ok (.aload_n 1, 1) := by decide +kernel
theorem dX11_turnByPlan_6 : decode cX11_turnByPlan 6 = .ok (.iload_n 2, 1) := by decide +kernel
theorem dX11_turnByPlan_7 : decode cX11_turnByPlan 7 = .ok (.invokevirtual 270, 3) := by decide +kernel
theorem dX11_turnByPlan_10 : decode cX11_turnByPlan 10 = .ok (.ifCond .ne 38, 3) := by decide +kernel
theorem dX11_turnByPlan_13 : decode cX11_turnByPlan 13 = .ok (.aload_n 0, 1) := by decide +kernel
theorem dX11_turnByPlan_14 : decode cX11_turnByPlan 14 = .ok (.getfield 40, 3) := by decide +kernel
theorem dX11_turnByPlan_17 : decode cX11_turnByPlan 17 = .ok (.aload_n 0, 1) := by decide +kernel
theorem dX11_turnByPlan_18 : decode cX11_turnByPlan 18 = .ok (.getfield 10, 3) := by decide +kernel
theorem dX11_turnByPlan_21 : decode cX11_turnByPlan 21 = .ok (.aload_n 1, 1) := by decide +kernel
theorem dX11_turnByPlan_22 : decode cX11_turnByPlan 22 = .ok (.invokevirtual 196, 3) := by decide +kernel
theorem dX11_turnByPlan_25 : decode cX11_turnByPlan 25 = .ok (.aload_n 1, 1) := by decide +kernel
theorem dX11_turnByPlan_26 : decode cX11_turnByPlan 26 = .ok (.aload_n 1, 1) := by decide +kernel
theorem dX11_turnByPlan_27 : decode cX11_turnByPlan 27 = .ok (.getfield 165, 3) := by decide +kernel
theorem dX11_turnByPlan_30 : decode cX11_turnByPlan 30 = .ok (.iload_n 2, 1) := by decide +kernel
theorem dX11_turnByPlan_31 : decode cX11_turnByPlan 31 = .ok (.iconst 1, 1) := by decide +kernel
theorem dX11_turnByPlan_32 : decode cX11_turnByPlan 32 = .ok (.iadd, 1) := by decide +kernel
theorem dX11_turnByPlan_33 : decode cX11_turnByPlan 33 = .ok (.invokestatic 200, 3) := by decide +kernel
theorem dX11_turnByPlan_36 : decode cX11_turnByPlan 36 = .ok (.putfield 167, 3) := by decide +kernel
theorem dX11_turnByPlan_39 : decode cX11_turnByPlan 39 = .ok (.aload_n 0, 1) := by decide +kernel
theorem dX11_turnByPlan_40 : decode cX11_turnByPlan 40 = .ok (.getfield 10, 3) := by decide +kernel
theorem dX11_turnByPlan_43 : decode cX11_turnByPlan 43 = .ok (.invokevirtual 263, 3) := by decide +kernel
theorem dX11_turnByPlan_46 : decode cX11_turnByPlan 46 = .ok (.iconst 0, 1) := by decide +kernel
theorem dX11_turnByPlan_47 : decode cX11_turnByPlan 47 = .ok (.ireturn, 1) := by decide +kernel
theorem dX11_turnByPlan_48 : decode cX11_turnByPlan 48 = .ok (.aload_n 0, 1) := by decide +kernel
theorem dX11_turnByPlan_49 : decode cX11_turnByPlan 49 = .ok (.aload_n 1, 1) := by decide +kernel
theorem dX11_turnByPlan_50 : decode cX11_turnByPlan 50 = .ok (.aload_n 1, 1) := by decide +kernel
theorem dX11_turnByPlan_51 : decode cX11_turnByPlan 51 = .ok (.iload_n 2, 1) := by decide +kernel
theorem dX11_turnByPlan_52 : decode cX11_turnByPlan 52 = .ok (.iconst 0, 1) := by decide +kernel
theorem dX11_turnByPlan_53 : decode cX11_turnByPlan 53 = .ok (.invokevirtual 273, 3) := by decide +kernel
theorem dX11_turnByPlan_56 : decode cX11_turnByPlan 56 = .ok (.aload_n 1, 1) := by decide +kernel
theorem dX11_turnByPlan_57 : decode cX11_turnByPlan 57 = .ok (.iload_n 2, 1) := by decide +kernel
theorem dX11_turnByPlan_58 : decode cX11_turnByPlan 58 = .ok (.iconst 1, 1) := by decide +kernel
theorem dX11_turnByPlan_59 : decode cX11_turnByPlan 59 = .ok (.invokevirtual 273, 3) := by decide +kernel
theorem dX11_turnByPlan_62 : decode cX11_turnByPlan 62 = .ok (.aload_n 1, 1) := by decide +kernel
theorem dX11_turnByPlan_63 : decode cX11_turnByPlan 63 = .ok (.iload_n 2, 1) := by decide +kernel
theorem dX11_turnByPlan_64 : decode cX11_turnByPlan 64 = .ok (.iconst 2, 1) := by decide +kernel
theorem dX11_turnByPlan_65 : decode cX11_turnByPlan 65 = .ok (.invokevirtual 273, 3) := by decide +kernel
theorem dX11_turnByPlan_68 : decode cX11_turnByPlan 68 = .ok (.aload_n 1, 1) := by decide +kernel
theorem dX11_turnByPlan_69 : decode cX11_turnByPlan 69 = .ok (.iload_n 2, 1) := by decide +kernel
theorem dX11_turnByPlan_70 : decode cX11_turnByPlan 70 = .ok (.iconst 3, 1) := by decide +kernel
theorem dX11_turnByPlan_71 : decode cX11_turnByPlan 71 = .ok (.invokevirtual 273, 3) := by decide +kernel
theorem dX11_turnByPlan_74 : decode cX11_turnByPlan 74 = .ok (.invokevirtual 189, 3) := by decide +kernel
theorem dX11_turnByPlan_77 : decode cX11_turnByPlan 77 = .ok (.pop, 1) := by decide +kernel
theorem dX11_turnByPlan_78 : decode cX11_turnByPlan 78 = .ok (.aload_n 1, 1) := by decide +kernel
theorem dX11_turnByPlan_79 : decode cX11_turnByPlan 79 = .ok (.iload_n 2, 1) := by decide +kernel
theorem dX11_turnByPlan_80 : decode cX11_turnByPlan 80 = .ok (.iconst 1, 1) := by decide +kernel
theorem dX11_turnByPlan_81 : decode cX11_turnByPlan 81 = .ok (.iadd, 1) := by decide +kernel
theorem dX11_turnByPlan_82 : decode cX11_turnByPlan 82 = .ok (.putfield 167, 3) := by decide +kernel
theorem dX11_turnByPlan_85 : decode cX11_turnByPlan 85 = .ok (.iconst 1, 1) := by decide +kernel
theorem dX11_turnByPlan_86 : decode cX11_turnByPlan 86 = .ok (.ireturn, 1) := by decide +kernel
theorem dX11_meet_0 : decode cX11_meet 0 = .ok (.aload_n 0, 1) := by decide +kernel
theorem dX11_meet_1 : decode cX11_meet 1 = .ok (.getfield 40, 3) := by decide +kernel
theorem dX11_meet_4 : decode cX11_meet 4 = .ok (.invokevirtual 48, 3) := by decide +kernel
theorem dX11_meet_7 : decode cX11_meet 7 = .ok (.aload_n 0, 1) := by decide +kernel
theorem dX11_meet_8 : decode cX11_meet 8 = .ok (.getfield 10, 3) := by decide +kernel
theorem dX11_meet_11 : decode cX11_meet 11 = .ok (.invokevirtual 275, 3) := by decide +kernel
theorem dX11_meet_14 : decode cX11_meet 14 = .ok (.return_, 1) := by decide +kernel
theorem dX11_days_0 : decode cX11_days 0 = .ok (.iload_n 1, 1) := by decide +kernel
theorem dX11_days_1 : decode cX11_days 1 = .ok (.iconst 1, 1) := by decide +kernel
theorem dX11_days_2 : decode cX11_days 2 = .ok (.bipush 100, 2) := by decide +kernel
theorem dX11_days_4 : decode cX11_days 4 = .ok (.invokestatic 51, 3) := by decide +kernel
theorem dX11_days_7 : decode cX11_days 7 = .ok (.ifCond .eq 18, 3) := by decide +kernel
theorem dX11_days_10 : decode cX11_days 10 = .ok (.aload_n 0, 1) := by decide +kernel
theorem dX11_days_11 : decode cX11_days 11 = .ok (.getfield 10, 3) := by decide +kernel
theorem dX11_days_14 : decode cX11_days 14 = .ok (.getfield 278, 3) := by decide +kernel
theorem dX11_days_17 : decode cX11_days 17 = .ok (.iload_n 1, 1) := by decide +kernel
theorem dX11_days_18 : decode cX11_days 18 = .ok (.iadd, 1) := by decide +kernel
theorem dX11_days_19 : decode cX11_days 19 = .ok (.sipush 9999, 3) := by decide +kernel
theorem dX11_days_22 : decode cX11_days 22 = .ok (.if_icmp .le 5, 3) := by decide +kernel
theorem dX11_days_25 : decode cX11_days 25 = .ok (.iconst 0, 1) := by decide +kernel
theorem dX11_days_26 : decode cX11_days 26 = .ok (.ireturn, 1) := by decide +kernel
theorem dX11_days_27 : decode cX11_days 27 = .ok (.aload_n 0, 1) := by decide +kernel
theorem dX11_days_28 : decode cX11_days 28 = .ok (.getfield 40, 3) := by decide +kernel
theorem dX11_days_31 : decode cX11_days 31 = .ok (.invokevirtual 48, 3) := by decide +kernel
theorem dX11_days_34 : decode cX11_days 34 = .ok (.iconst 0, 1) := by decide +kernel
theorem dX11_days_35 : decode cX11_days 35 = .ok (.istore_n 2, 1) := by decide +kernel
theorem dX11_days_36 : decode cX11_days 36 = .ok (.iload_n 2, 1) := by decide +kernel
theorem dX11_days_37 : decode cX11_days 37 = .ok (.iload_n 1, 1) := by decide +kernel
theorem dX11_days_38 : decode cX11_days 38 = .ok (.if_icmp .ge 53, 3) := by decide +kernel
theorem dX11_days_41 : decode cX11_days 41 = .ok (.iconst 0, 1) := by decide +kernel
theorem dX11_days_42 : decode cX11_days 42 = .ok (.istore_n 3, 1) := by decide +kernel
theorem dX11_days_43 : decode cX11_days 43 = .ok (.iload_n 3, 1) := by decide +kernel
theorem dX11_days_44 : decode cX11_days 44 = .ok (.aload_n 0, 1) := by decide +kernel
theorem dX11_days_45 : decode cX11_days 45 = .ok (.getfield 10, 3) := by decide +kernel
theorem dX11_days_48 : decode cX11_days 48 = .ok (.getfield 62, 3) := by decide +kernel
theorem dX11_days_51 : decode cX11_days 51 = .ok (.if_icmp .ge 21, 3) := by decide +kernel
theorem dX11_days_54 : decode cX11_days 54 = .ok (.aload_n 0, 1) := by decide +kernel
theorem dX11_days_55 : decode cX11_days 55 = .ok (.aload_n 0, 1) := by decide +kernel
theorem dX11_days_56 : decode cX11_days 56 = .ok (.getfield 10, 3) := by decide +kernel
theorem dX11_days_59 : decode cX11_days 59 = .ok (.iload_n 3, 1) := by decide +kernel
theorem dX11_days_60 : decode cX11_days 60 = .ok (.invokevirtual 80, 3) := by decide +kernel
theorem dX11_days_63 : decode cX11_days 63 = .ok (.invokevirtual 281, 3) := by decide +kernel
theorem dX11_days_66 : decode cX11_days 66 = .ok (.iinc 3 1, 3) := by decide +kernel
theorem dX11_days_69 : decode cX11_days 69 = .ok (.goto (-26), 3) := by decide +kernel
theorem dX11_days_72 : decode cX11_days 72 = .ok (.aload_n 0, 1) := by decide +kernel
theorem dX11_days_73 : decode cX11_days 73 = .ok (.getfield 10, 3) := by decide +kernel
theorem dX11_days_76 : decode cX11_days 76 = .ok (.dup, 1) := by decide +kernel
theorem dX11_days_77 : decode cX11_days 77 = .ok (.getfield 278, 3) := by decide +kernel
theorem dX11_days_80 : decode cX11_days 80 = .ok (.iconst 1, 1) := by decide +kernel
theorem dX11_days_81 : decode cX11_days 81 = .ok (.iadd, 1) := by decide +kernel
theorem dX11_days_82 : decode cX11_days 82 = .ok (.putfield 278, 3) := by decide +kernel
theorem dX11_days_85 : decode cX11_days 85 = .ok (.iinc 2 1, 3) := by decide +kernel
theorem dX11_days_88 : decode cX11_days 88 = .ok (.goto (-52), 3) := by decide +kernel
theorem dX11_days_91 : decode cX11_days 91 = .ok (.iconst 1, 1) := by decide +kernel
theorem dX11_days_92 : decode cX11_days 92 = .ok (.ireturn, 1) := by decide +kernel
theorem dX11_mend_0 : decode cX11_mend 0 = .ok (.aload_n 1, 1) := by decide +kernel
theorem dX11_mend_1 : decode cX11_mend 1 = .ok (.ifnull 46, 3) := by decide +kernel
theorem dX11_mend_4 : decode cX11_mend 4 = .ok (.aload_n 0, 1) := by decide +kernel
theorem dX11_mend_5 : decode cX11_mend 5 = .ok (.getfield 33, 3) := by decide +kernel
theorem dX11_mend_8 : decode cX11_mend 8 = .ok (.aload_n 1, 1) := by decide +kernel
theorem dX11_mend_9 : decode cX11_mend 9 = .ok (.aload_n 0, 1) := by decide +kernel
theorem dX11_mend_10 : decode cX11_mend 10 = .ok (.getfield 10, 3) := by decide +kernel
theorem dX11_mend_13 : decode cX11_mend 13 = .ok (.getfield 205, 3) := by decide +kernel
theorem dX11_mend_16 : decode cX11_mend 16 = .ok (.invokevirtual 208, 3) := by decide +kernel
theorem dX11_mend_19 : decode cX11_mend 19 = .ok (.aload_n 1, 1) := by decide +kernel
theorem dX11_mend_20 : decode cX11_mend 20 = .ok (.iconst 0, 1) := by decide +kernel
theorem dX11_mend_21 : decode cX11_mend 21 = .ok (.aload_n 1, 1) := by decide +kernel
theorem dX11_mend_22 : decode cX11_mend 22 = .ok (.getfield 89, 3) := by decide +kernel
theorem dX11_mend_25 : decode cX11_mend 25 = .ok (.aload_n 0, 1) := by decide +kernel
theorem dX11_mend_26 : decode cX11_mend 26 = .ok (.getfield 33, 3) := by decide +kernel
theorem dX11_mend_29 : decode cX11_mend 29 = .ok (.aload_n 0, 1) := by decide +kernel
theorem dX11_mend_30 : decode cX11_mend 30 = .ok (.getfield 10, 3) := by decide +kernel
theorem dX11_mend_33 : decode cX11_mend 33 = .ok (.getfield 124, 3) := by decide +kernel
theorem dX11_mend_36 : decode cX11_mend 36 = .ok (.iconst 2, 1) := by decide +kernel
theorem dX11_mend_37 : decode cX11_mend 37 = .ok (.invokevirtual 216, 3) := by decide +kernel
theorem dX11_mend_40 : decode cX11_mend 40 = .ok (.isub, 1) := by decide +kernel
theorem dX11_mend_41 : decode cX11_mend 41 = .ok (.invokestatic 256, 3) := by decide +kernel
theorem dX11_mend_44 : decode cX11_mend 44 = .ok (.putfield 89, 3) := by decide +kernel
theorem dX11_mend_47 : decode cX11_mend 47 = .ok (.return_, 1) := by decide +kernel
theorem dX11_undo_0 : decode cX11_undo 0 = .ok (.aload_n 0, 1) := by decide +kernel
theorem dX11_undo_1 : decode cX11_undo 1 = .ok (.getfield 40, 3) := by decide +kernel
theorem dX11_undo_4 : decode cX11_undo 4 = .ok (.aload_n 0, 1) := by decide +kernel
theorem dX11_undo_5 : decode cX11_undo 5 = .ok (.getfield 10, 3) := by decide +kernel
theorem dX11_undo_8 : decode cX11_undo 8 = .ok (.invokevirtual 285, 3) := by decide +kernel
theorem dX11_undo_11 : decode cX11_undo 11 = .ok (.ireturn, 1) := by decide +kernel
theorem dX11_image_0 : decode cX11_image 0 = .ok (.iload_n 1, 1) := by decide +kernel
theorem dX11_image_1 : decode cX11_image 1 = .ok (.ifCond .ne 32, 3) := by decide +kernel
theorem dX11_image_4 : decode cX11_image 4 = .ok (.aload_n 0, 1) := by decide +kernel
theorem dX11_image_5 : decode cX11_image 5 = .ok (.getfield 289, 3) := by decide +kernel
theorem dX11_image_8 : decode cX11_image 8 = .ok (.ifnonnull 5, 3) := by decide +kernel
theorem dX11_image_11 : decode cX11_image 11 = .ok (.iconst 0, 1) := by decide +kernel
theorem dX11_image_12 : decode cX11_image 12 = .ok (.ireturn, 1) := by decide +kernel
theorem dX11_image_13 : decode cX11_image 13 = .ok (.aload_n 0, 1) := by decide +kernel
theorem dX11_image_14 : decode cX11_image 14 = .ok (.getfield 10, 3) := by decide +kernel
theorem dX11_image_17 : decode cX11_image 17 = .ok (.aload_n 0, 1) := by decide +kernel
theorem dX11_image_18 : decode cX11_image 18 = .ok (.getfield 289, 3) := by decide +kernel
theorem dX11_image_21 : decode cX11_image 21 = .ok (.invokevirtual 292, 3) := by decide +kernel
theorem dX11_image_24 : decode cX11_image 24 = .ok (.aload_n 0, 1) := by decide +kernel
theorem dX11_image_25 : decode cX11_image 25 = .ok (.getfield 40, 3) := by decide +kernel
theorem dX11_image_28 : decode cX11_image 28 = .ok (.invokevirtual 48, 3) := by decide +kernel
theorem dX11_image_31 : decode cX11_image 31 = .ok (.iconst 1, 1) := by decide +kernel
theorem dX11_image_32 : decode cX11_image 32 = .ok (.ireturn, 1) := by decide +kernel
theorem dX11_image_33 : decode cX11_image 33 = .ok (.aload_n 0, 1) := by decide +kernel
theorem dX11_image_34 : decode cX11_image 34 = .ok (.getfield 289, 3) := by decide +kernel
theorem dX11_image_37 : decode cX11_image 37 = .ok (.ifnonnull 14, 3) := by decide +kernel
theorem dX11_image_40 : decode cX11_image 40 = .ok (.aload_n 0, 1) := by decide +kernel
theorem dX11_image_41 : decode cX11_image 41 = .ok (.new 7, 3) := by decide +kernel
theorem dX11_image_44 : decode cX11_image 44 = .ok (.dup, 1) := by decide +kernel
theorem dX11_image_45 : decode cX11_image 45 = .ok (.invokespecial 9, 3) := by decide +kernel
theorem dX11_image_48 : decode cX11_image 48 = .ok (.putfield 289, 3) := by decide +kernel
theorem dX11_image_51 : decode cX11_image 51 = .ok (.aload_n 0, 1) := by decide +kernel
theorem dX11_image_52 : decode cX11_image 52 = .ok (.getfield 289, 3) := by decide +kernel
theorem dX11_image_55 : decode cX11_image 55 = .ok (.aload_n 0, 1) := by decide +kernel
theorem dX11_image_56 : decode cX11_image 56 = .ok (.getfield 10, 3) := by decide +kernel
theorem dX11_image_59 : decode cX11_image 59 = .ok (.invokevirtual 292, 3) := by decide +kernel
theorem dX11_image_62 : decode cX11_image 62 = .ok (.iconst 1, 1) := by decide +kernel
theorem dX11_image_63 : decode cX11_image 63 = .ok (.ireturn, 1) := by decide +kernel
theorem dX11_of_0 : decode cX11_of 0 = .ok (.aload_n 0, 1) := by decide +kernel
theorem dX11_of_1 : decode cX11_of 1 = .ok (.getfield 10, 3) := by decide +kernel
theorem dX11_of_4 : decode cX11_of 4 = .ok (.iload_n 1, 1) := by decide +kernel
theorem dX11_of_5 : decode cX11_of 5 = .ok (.invokevirtual 80, 3) := by decide +kernel
theorem dX11_of_8 : decode cX11_of 8 = .ok (.astore_n 3, 1) := by decide +kernel
theorem dX11_of_9 : decode cX11_of 9 = .ok (.aload_n 3, 1) := by decide +kernel
theorem dX11_of_10 : decode cX11_of 10 = .ok (.ifnonnull 5, 3) := by decide +kernel
theorem dX11_of_13 : decode cX11_of 13 = .ok (.iconst (-1), 1) := by decide +kernel
theorem dX11_of_14 : decode cX11_of 14 = .ok (.ireturn, 1) := by decide +kernel
theorem dX11_of_15 : decode cX11_of 15 = .ok (.iload_n 2, 1) := by decide +kernel
theorem dX11_of_16 : decode cX11_of 16 = .ok (.tableswitch 105 0 7 #[48, 53, 58, 63, 68, 77, 86, 96], 48) := by decide +kernel
theorem dX11_of_64 : decode cX11_of 64 = .ok (.aload_n 3, 1) := by decide +kernel
theorem dX11_of_65 : decode cX11_of 65 = .ok (.getfield 84, 3) := by decide +kernel
theorem dX11_of_68 : decode cX11_of 68 = .ok (.ireturn, 1) := by decide +kernel
theorem dX11_of_69 : decode cX11_of 69 = .ok (.aload_n 3, 1) := by decide +kernel
theorem dX11_of_70 : decode cX11_of 70 = .ok (.getfield 89, 3) := by decide +kernel
theorem dX11_of_73 : decode cX11_of 73 = .ok (.ireturn, 1) := by decide +kernel
theorem dX11_of_74 : decode cX11_of 74 = .ok (.aload_n 3, 1) := by decide +kernel
theorem dX11_of_75 : decode cX11_of 75 = .ok (.getfield 250, 3) := by decide +kernel
theorem dX11_of_78 : decode cX11_of 78 = .ok (.ireturn, 1) := by decide +kernel
theorem dX11_of_79 : decode cX11_of 79 = .ok (.aload_n 3, 1) := by decide +kernel
theorem dX11_of_80 : decode cX11_of 80 = .ok (.getfield 247, 3) := by decide +kernel
theorem dX11_of_83 : decode cX11_of 83 = .ok (.ireturn, 1) := by decide +kernel
theorem dX11_of_84 : decode cX11_of 84 = .ok (.aload_n 0, 1) := by decide +kernel
theorem dX11_of_85 : decode cX11_of 85 = .ok (.getfield 10, 3) := by decide +kernel
theorem dX11_of_88 : decode cX11_of 88 = .ok (.aload_n 3, 1) := by decide +kernel
theorem dX11_of_89 : decode cX11_of 89 = .ok (.invokevirtual 295, 3) := by decide +kernel
theorem dX11_of_92 : decode cX11_of 92 = .ok (.ireturn, 1) := by decide +kernel
theorem dX11_of_93 : decode cX11_of 93 = .ok (.aload_n 0, 1) := by decide +kernel
theorem dX11_of_94 : decode cX11_of 94 = .ok (.getfield 10, 3) := by decide +kernel
theorem dX11_of_97 : decode cX11_of 97 = .ok (.iload_n 1, 1) := by decide +kernel
theorem dX11_of_98 : decode cX11_of 98 = .ok (.invokevirtual 298, 3) := by decide +kernel
theorem dX11_of_101 : decode cX11_of 101 = .ok (.ireturn, 1) := by decide +kernel
theorem dX11_of_102 : decode cX11_of 102 = .ok (.aload_n 3, 1) := by decide +kernel
theorem dX11_of_103 : decode cX11_of 103 = .ok (.getfield 165, 3) := by decide +kernel
theorem dX11_of_106 : decode cX11_of 106 = .ok (.aload_n 3, 1) := by decide +kernel
theorem dX11_of_107 : decode cX11_of 107 = .ok (.getfield 167, 3) := by decide +kernel
theorem dX11_of_110 : decode cX11_of 110 = .ok (.isub, 1) := by decide +kernel
theorem dX11_of_111 : decode cX11_of 111 = .ok (.ireturn, 1) := by decide +kernel
theorem dX11_of_112 : decode cX11_of 112 = .ok (.aload_n 0, 1) := by decide +kernel
theorem dX11_of_113 : decode cX11_of 113 = .ok (.getfield 10, 3) := by decide +kernel
theorem dX11_of_116 : decode cX11_of 116 = .ok (.iload_n 1, 1) := by decide +kernel
theorem dX11_of_117 : decode cX11_of 117 = .ok (.invokevirtual 301, 3) := by decide +kernel
theorem dX11_of_120 : decode cX11_of 120 = .ok (.ireturn, 1) := by decide +kernel
theorem dX11_of_121 : decode cX11_of 121 = .ok (.iconst (-1), 1) := by decide +kernel
theorem dX11_of_122 : decode cX11_of 122 = .ok (.ireturn, 1) := by decide +kernel
theorem dX11_at_0 : decode cX11_at 0 = .ok (.aload_n 0, 1) := by decide +kernel
theorem dX11_at_1 : decode cX11_at 1 = .ok (.getfield 10, 3) := by decide +kernel
theorem dX11_at_4 : decode cX11_at 4 = .ok (.iload_n 1, 1) := by decide +kernel
theorem dX11_at_5 : decode cX11_at 5 = .ok (.invokevirtual 193, 3) := by decide +kernel
theorem dX11_at_8 : decode cX11_at 8 = .ok (.ifCond .ne 5, 3) := by decide +kernel
theorem dX11_at_11 : decode cX11_at 11 = .ok (.iconst (-1), 1) := by decide +kernel
theorem dX11_at_12 : decode cX11_at 12 = .ok (.ireturn, 1) := by decide +kernel
theorem dX11_at_13 : decode cX11_at 13 = .ok (.iload_n 2, 1) := by decide +kernel
theorem dX11_at_14 : decode cX11_at 14 = .ok (.ifCond .ne 15, 3) := by decide +kernel
theorem dX11_at_17 : decode cX11_at 17 = .ok (.aload_n 0, 1) := by decide +kernel
theorem dX11_at_18 : decode cX11_at 18 = .ok (.getfield 10, 3) := by decide +kernel
theorem dX11_at_21 : decode cX11_at 21 = .ok (.getfield 304, 3) := by decide +kernel
theorem dX11_at_24 : decode cX11_at 24 = .ok (.iload_n 1, 1) := by decide +kernel
theorem dX11_at_25 : decode cX11_at 25 = .ok (.iaload, 1) := by decide +kernel
theorem dX11_at_26 : decode cX11_at 26 = .ok (.goto 21, 3) := by decide +kernel
theorem dX11_at_29 : decode cX11_at 29 = .ok (.iload_n 2, 1) := by decide +kernel
theorem dX11_at_30 : decode cX11_at 30 = .ok (.iconst 1, 1) := by decide +kernel
theorem dX11_at_31 : decode cX11_at 31 = .ok (.if_icmp .ne 15, 3) := by decide +kernel
theorem dX11_at_34 : decode cX11_at 34 = .ok (.aload_n 0, 1) := by decide +kernel
theorem dX11_at_35 : decode cX11_at 35 = .ok (.getfield 10, 3) := by decide +kernel
theorem dX11_at_38 : decode cX11_at 38 = .ok (.getfield 307, 3) := by decide +kernel
theorem dX11_at_41 : decode cX11_at 41 = .ok (.iload_n 1, 1) := by decide +kernel
theorem dX11_at_42 : decode cX11_at 42 = .ok (.iaload, 1) := by decide +kernel
theorem dX11_at_43 : decode cX11_at 43 = .ok (.goto 4, 3) := by decide +kernel
theorem dX11_at_46 : decode cX11_at 46 = .ok (.iconst (-1), 1) := by decide +kernel
theorem dX11_at_47 : decode cX11_at 47 = .ok (.ireturn, 1) := by decide +kernel
theorem dX11_book_0 : decode cX11_book 0 = .ok (.iload_n 2, 1) := by decide +kernel
theorem dX11_book_1 : decode cX11_book 1 = .ok (.iconst 0, 1) := by decide +kernel
theorem dX11_book_2 : decode cX11_book 2 = .ok (.bipush 8, 2) := by decide +kernel
theorem dX11_book_4 : decode cX11_book 4 = .ok (.invokestatic 51, 3) := by decide +kernel
theorem dX11_book_7 : decode cX11_book 7 = .ok (.ifCond .eq 26, 3) := by decide +kernel
theorem dX11_book_10 : decode cX11_book 10 = .ok (.aload_n 0, 1) := by decide +kernel
theorem dX11_book_11 : decode cX11_book 11 = .ok (.getfield 10, 3) := by decide +kernel
theorem dX11_book_14 : decode cX11_book 14 = .ok (.iload_n 1, 1) := by decide +kernel
theorem dX11_book_15 : decode cX11_book 15 = .ok (.invokevirtual 310, 3) := by decide +kernel
theorem dX11_book_18 : decode cX11_book 18 = .ok (.ifCond .eq 15, 3) := by decide +kernel
theorem dX11_book_21 : decode cX11_book 21 = .ok (.aload_n 0, 1) := by decide +kernel
theorem dX11_book_22 : decode cX11_book 22 = .ok (.getfield 10, 3) := by decide +kernel
theorem dX11_book_25 : decode cX11_book 25 = .ok (.iload_n 1, 1) := by decide +kernel
theorem dX11_book_26 : decode cX11_book 26 = .ok (.iload_n 2, 1) := by decide +kernel
theorem dX11_book_27 : decode cX11_book 27 = .ok (.invokevirtual 313, 3) := by decide +kernel
theorem dX11_book_30 : decode cX11_book 30 = .ok (.goto 5, 3) := by decide +kernel
theorem dX11_book_33 : decode cX11_book 33 = .ok (.bipush (-100), 2) := by decide +kernel
theorem dX11_book_35 : decode cX11_book 35 = .ok (.ireturn, 1) := by decide +kernel
theorem dX11_place_0 : decode cX11_place 0 = .ok (.iconst 0, 1) := by decide +kernel
theorem dX11_place_1 : decode cX11_place 1 = .ok (.istore_n 2, 1) := by decide +kernel
theorem dX11_place_2 : decode cX11_place 2 = .ok (.iload_n 2, 1) := by decide +kernel
theorem dX11_place_3 : decode cX11_place 3 = .ok (.aload_n 0, 1) := by decide +kernel
theorem dX11_place_4 : decode cX11_place 4 = .ok (.getfield 10, 3) := by decide +kernel
theorem dX11_place_7 : decode cX11_place 7 = .ok (.getfield 62, 3) := by decide +kernel
theorem dX11_place_10 : decode cX11_place 10 = .ok (.if_icmp .ge 23, 3) := by decide +kernel
theorem dX11_place_13 : decode cX11_place 13 = .ok (.aload_n 0, 1) := by decide +kernel
theorem dX11_place_14 : decode cX11_place 14 = .ok (.getfield 10, 3) := by decide +kernel
theorem dX11_place_17 : decode cX11_place 17 = .ok (.iload_n 2, 1) := by decide +kernel
theorem dX11_place_18 : decode cX11_place 18 = .ok (.invokevirtual 316, 3) := by decide +kernel
theorem dX11_place_21 : decode cX11_place 21 = .ok (.iload_n 1, 1) := by decide +kernel
theorem dX11_place_22 : decode cX11_place 22 = .ok (.if_icmp .ne 5, 3) := by decide +kernel
theorem dX11_place_25 : decode cX11_place 25 = .ok (.iload_n 2, 1) := by decide +kernel
theorem dX11_place_26 : decode cX11_place 26 = .ok (.ireturn, 1) := by decide +kernel
theorem dX11_place_27 : decode cX11_place 27 = .ok (.iinc 2 1, 3) := by decide +kernel
theorem dX11_place_30 : decode cX11_place 30 = .ok (.goto (-28), 3) := by decide +kernel
theorem dX11_place_33 : decode cX11_place 33 = .ok (.iconst (-1), 1) := by decide +kernel
theorem dX11_place_34 : decode cX11_place 34 = .ok (.ireturn, 1) := by decide +kernel
theorem dX11_record_0 : decode cX11_record 0 = .ok (.iconst (-1), 1) := by decide +kernel
theorem dX11_record_1 : decode cX11_record 1 = .ok (.istore_n 2, 1) := by decide +kernel
theorem dX11_record_2 : decode cX11_record 2 = .ok (.iconst 0, 1) := by decide +kernel
theorem dX11_record_3 : decode cX11_record 3 = .ok (.istore_n 3, 1) := by decide +kernel
theorem dX11_record_4 : decode cX11_record 4 = .ok (.iload_n 3, 1) := by decide +kernel
theorem dX11_record_5 : decode cX11_record 5 = .ok (.aload_n 0, 1) := by decide +kernel
theorem dX11_record_6 : decode cX11_record 6 = .ok (.getfield 10, 3) := by decide +kernel
theorem dX11_record_9 : decode cX11_record 9 = .ok (.getfield 319, 3) := by decide +kernel
theorem dX11_record_12 : decode cX11_record 12 = .ok (.if_icmp .ge 65, 3) := by decide +kernel
theorem dX11_record_15 : decode cX11_record 15 = .ok (.aload_n 0, 1) := by decide +kernel
theorem dX11_record_16 : decode cX11_record 16 = .ok (.getfield 10, 3) := by decide +kernel
theorem dX11_record_19 : decode cX11_record 19 = .ok (.iload_n 3, 1) := by decide +kernel
theorem dX11_record_20 : decode cX11_record 20 = .ok (.bipush 8, 2) := by decide +kernel
theorem dX11_record_22 : decode cX11_record 22 = .ok (.invokevirtual 313, 3) := by decide +kernel
theorem dX11_record_25 : decode cX11_record 25 = .ok (.ifCond .ne 46, 3) := by decide +kernel
theorem dX11_record_28 : decode cX11_record 28 = .ok (.aload_n 0, 1) := by decide +kernel
theorem dX11_record_29 : decode cX11_record 29 = .ok (.getfield 10, 3) := by decide +kernel
theorem dX11_record_32 : decode cX11_record 32 = .ok (.iload_n 3, 1) := by decide +kernel
theorem dX11_record_33 : decode cX11_record 33 = .ok (.iconst 3, 1) := by decide +kernel
theorem dX11_record_34 : decode cX11_record 34 = .ok (.invokevirtual 313, 3) := by decide +kernel
theorem dX11_record_37 : decode cX11_record 37 = .ok (.iload_n 1, 1) := by decide +kernel
theorem dX11_record_38 : decode cX11_record 38 = .ok (.if_icmp .ne 33, 3) := by decide +kernel
theorem dX11_record_41 : decode cX11_record 41 = .ok (.iload_n 2, 1) := by decide +kernel
theorem dX11_record_42 : decode cX11_record 42 = .ok (.iconst (-1), 1) := by decide +kernel
theorem dX11_record_43 : decode cX11_record 43 = .ok (.if_icmp .eq 26, 3) := by decide +kernel
theorem dX11_record_46 : decode cX11_record 46 = .ok (.aload_n 0, 1) := by decide +kernel
theorem dX11_record_47 : decode cX11_record 47 = .ok (.getfield 10, 3) := by decide +kernel
theorem dX11_record_50 : decode cX11_record 50 = .ok (.iload_n 3, 1) := by decide +kernel
theorem dX11_record_51 : decode cX11_record 51 = .ok (.bipush 7, 2) := by decide +kernel
theorem dX11_record_53 : decode cX11_record 53 = .ok (.invokevirtual 313, 3) := by decide +kernel
theorem dX11_record_56 : decode cX11_record 56 = .ok (.aload_n 0, 1) := by decide +kernel
theorem dX11_record_57 : decode cX11_record 57 = .ok (.getfield 10, 3) := by decide +kernel
theorem dX11_record_60 : decode cX11_record 60 = .ok (.iload_n 2, 1) := by decide +kernel
theorem dX11_record_61 : decode cX11_record 61 = .ok (.bipush 7, 2) := by decide +kernel
theorem dX11_record_63 : decode cX11_record 63 = .ok (.invokevirtual 313, 3) := by decide +kernel
theorem dX11_record_66 : decode cX11_record 66 = .ok (.if_icmp .le 5, 3) := by decide +kernel
theorem dX11_record_69 : decode cX11_record 69 = .ok (.iload_n 3, 1) := by decide +kernel
theorem dX11_record_70 : decode cX11_record 70 = .ok (.istore_n 2, 1) := by decide +kernel
theorem dX11_record_71 : decode cX11_record 71 = .ok (.iinc 3 1, 3) := by decide +kernel
theorem dX11_record_74 : decode cX11_record 74 = .ok (.goto (-70), 3) := by decide +kernel
theorem dX11_record_77 : decode cX11_record 77 = .ok (.iload_n 2, 1) := by decide +kernel
theorem dX11_record_78 : decode cX11_record 78 = .ok (.ireturn, 1) := by decide +kernel
theorem dX11_after_0 : decode cX11_after 0 = .ok (.aload_n 0, 1) := by decide +kernel
theorem dX11_after_1 : decode cX11_after 1 = .ok (.getfield 10, 3) := by decide +kernel
theorem dX11_after_4 : decode cX11_after 4 = .ok (.iload_n 1, 1) := by decide +kernel
theorem dX11_after_5 : decode cX11_after 5 = .ok (.invokevirtual 80, 3) := by decide +kernel
theorem dX11_after_8 : decode cX11_after 8 = .ok (.ifnull 25, 3) := by decide +kernel
theorem dX11_after_11 : decode cX11_after 11 = .ok (.iload_n 2, 1) := by decide +kernel
theorem dX11_after_12 : decode cX11_after 12 = .ok (.iconst 0, 1) := by decide +kernel
theorem dX11_after_13 : decode cX11_after 13 = .ok (.bipush 6, 2) := by decide +kernel
theorem dX11_after_15 : decode cX11_after 15 = .ok (.invokestatic 51, 3) := by decide +kernel
theorem dX11_after_18 : decode cX11_after 18 = .ok (.ifCond .eq 15, 3) := by decide +kernel
theorem dX11_after_21 : decode cX11_after 21 = .ok (.aload_n 0, 1) := by decide +kernel
theorem dX11_after_22 : decode cX11_after 22 = .ok (.getfield 10, 3) := by decide +kernel
theorem dX11_after_25 : decode cX11_after 25 = .ok (.iload_n 1, 1) := by decide +kernel
theorem dX11_after_26 : decode cX11_after 26 = .ok (.iload_n 2, 1) := by decide +kernel
theorem dX11_after_27 : decode cX11_after 27 = .ok (.invokevirtual 320, 3) := by decide +kernel
theorem dX11_after_30 : decode cX11_after 30 = .ok (.goto 4, 3) := by decide +kernel
theorem dX11_after_33 : decode cX11_after 33 = .ok (.iconst (-1), 1) := by decide +kernel
theorem dX11_after_34 : decode cX11_after 34 = .ok (.ireturn, 1) := by decide +kernel
theorem dX11_look_0 : decode cX11_look 0 = .ok (.iload_n 1, 1) := by decide +kernel
theorem dX11_look_1 : decode cX11_look 1 = .ok (.tableswitch 168 0 11 #[63, 71, 79, 87, 95, 103, 111, 119, 130, 141, 149, 157], 63) := by decide +kernel
theorem dX11_look_64 : decode cX11_look 64 = .ok (.aload_n 0, 1) := by decide +kernel
theorem dX11_look_65 : decode cX11_look 65 = .ok (.getfield 10, 3) := by decide +kernel
theorem dX11_look_68 : decode cX11_look 68 = .ok (.getfield 55, 3) := by decide +kernel
theorem dX11_look_71 : decode cX11_look 71 = .ok (.ireturn, 1) := by decide +kernel
theorem dX11_look_72 : decode cX11_look 72 = .ok (.aload_n 0, 1) := by decide +kernel
theorem dX11_look_73 : decode cX11_look 73 = .ok (.getfield 10, 3) := by decide +kernel
theorem dX11_look_76 : decode cX11_look 76 = .ok (.getfield 62, 3) := by decide +kernel
theorem dX11_look_79 : decode cX11_look 79 = .ok (.ireturn, 1) := by decide +kernel
theorem dX11_look_80 : decode cX11_look 80 = .ok (.aload_n 0, 1) := by decide +kernel
theorem dX11_look_81 : decode cX11_look 81 = .ok (.getfield 10, 3) := by decide +kernel
theorem dX11_look_84 : decode cX11_look 84 = .ok (.getfield 205, 3) := by decide +kernel
theorem dX11_look_87 : decode cX11_look 87 = .ok (.ireturn, 1) := by decide +kernel
theorem dX11_look_88 : decode cX11_look 88 = .ok (.aload_n 0, 1) := by decide +kernel
theorem dX11_look_89 : decode cX11_look 89 = .ok (.getfield 10, 3) := by decide +kernel
theorem dX11_look_92 : decode cX11_look 92 = .ok (.getfield 323, 3) := by decide +kernel
theorem dX11_look_95 : decode cX11_look 95 = .ok (.ireturn, 1) := by decide +kernel
theorem dX11_look_96 : decode cX11_look 96 = .ok (.aload_n 0, 1) := by decide +kernel
theorem dX11_look_97 : decode cX11_look 97 = .ok (.getfield 10, 3) := by decide +kernel
theorem dX11_look_100 : decode cX11_look 100 = .ok (.getfield 278, 3) := by decide +kernel
theorem dX11_look_103 : decode cX11_look 103 = .ok (.ireturn, 1) := by decide +kernel
theorem dX11_look_104 : decode cX11_look 104 = .ok (.aload_n 0, 1) := by decide +kernel
theorem dX11_look_105 : decode cX11_look 105 = .ok (.getfield 10, 3) := by decide +kernel
theorem dX11_look_108 : decode cX11_look 108 = .ok (.getfield 319, 3) := by decide +kernel
theorem dX11_look_111 : decode cX11_look 111 = .ok (.ireturn, 1) := by decide +kernel
theorem dX11_look_112 : decode cX11_look 112 = .ok (.aload_n 0, 1) := by decide +kernel
theorem dX11_look_113 : decode cX11_look 113 = .ok (.getfield 10, 3) := by decide +kernel
theorem dX11_look_116 : decode cX11_look 116 = .ok (.getfield 44, 3) := by decide +kernel
theorem dX11_look_119 : decode cX11_look 119 = .ok (.ireturn, 1) := by decide +kernel
theorem dX11_look_120 : decode cX11_look 120 = .ok (.aload_n 0, 1) := by decide +kernel
theorem dX11_look_121 : decode cX11_look 121 = .ok (.getfield 10, 3) := by decide +kernel
theorem dX11_look_124 : decode cX11_look 124 = .ok (.getfield 114, 3) := by decide +kernel
theorem dX11_look_127 : decode cX11_look 127 = .ok (.getfield 147, 3) := by decide +kernel
theorem dX11_look_130 : decode cX11_look 130 = .ok (.ireturn, 1) := by decide +kernel
theorem dX11_look_131 : decode cX11_look 131 = .ok (.aload_n 0, 1) := by decide +kernel
theorem dX11_look_132 : decode cX11_look 132 = .ok (.getfield 10, 3) := by decide +kernel
theorem dX11_look_135 : decode cX11_look 135 = .ok (.getfield 124, 3) := by decide +kernel
theorem dX11_look_138 : decode cX11_look 138 = .ok (.getfield 147, 3) := by decide +kernel
theorem dX11_look_141 : decode cX11_look 141 = .ok (.ireturn, 1) := by decide +kernel
theorem dX11_look_142 : decode cX11_look 142 = .ok (.aload_n 0, 1) := by decide +kernel
theorem dX11_look_143 : decode cX11_look 143 = .ok (.getfield 40, 3) := by decide +kernel
theorem dX11_look_146 : decode cX11_look 146 = .ok (.getfield 326, 3) := by decide +kernel
theorem dX11_look_149 : decode cX11_look 149 = .ok (.ireturn, 1) := by decide +kernel
theorem dX11_look_150 : decode cX11_look 150 = .ok (.aload_n 0, 1) := by decide +kernel
theorem dX11_look_151 : decode cX11_look 151 = .ok (.getfield 10, 3) := by decide +kernel
theorem dX11_look_154 : decode cX11_look 154 = .ok (.getfield 176, 3) := by decide +kernel
theorem dX11_look_157 : decode cX11_look 157 = .ok (.ireturn, 1) := by decide +kernel
theorem dX11_look_158 : decode cX11_look 158 = .ok (.aload_n 0, 1) := by decide +kernel
theorem dX11_look_159 : decode cX11_look 159 = .ok (.getfield 10, 3) := by decide +kernel
theorem dX11_look_162 : decode cX11_look 162 = .ok (.getfield 136, 3) := by decide +kernel
theorem dX11_look_165 : decode cX11_look 165 = .ok (.getfield 147, 3) := by decide +kernel
theorem dX11_look_168 : decode cX11_look 168 = .ok (.ireturn, 1) := by decide +kernel
theorem dX11_look_169 : decode cX11_look 169 = .ok (.iload_n 1, 1) := by decide +kernel
theorem dX11_look_170 : decode cX11_look 170 = .ok (.bipush 20, 2) := by decide +kernel
theorem dX11_look_172 : decode cX11_look 172 = .ok (.bipush 24, 2) := by decide +kernel
theorem dX11_look_174 : decode cX11_look 174 = .ok (.invokestatic 51, 3) := by decide +kernel
theorem dX11_look_177 : decode cX11_look 177 = .ok (.ifCond .eq 18, 3) := by decide +kernel
theorem dX11_look_180 : decode cX11_look 180 = .ok (.aload_n 0, 1) := by decide +kernel
theorem dX11_look_181 : decode cX11_look 181 = .ok (.getfield 10, 3) := by decide +kernel
theorem dX11_look_184 : decode cX11_look 184 = .ok (.getfield 222, 3) := by decide +kernel
theorem dX11_look_187 : decode cX11_look 187 = .ok (.iload_n 1, 1) := by decide +kernel
theorem dX11_look_188 : decode cX11_look 188 = .ok (.bipush 20, 2) := by decide +kernel
theorem dX11_look_190 : decode cX11_look 190 = .ok (.isub, 1) := by decide +kernel
theorem dX11_look_191 : decode cX11_look 191 = .ok (.iaload, 1) := by decide +kernel
theorem dX11_look_192 : decode cX11_look 192 = .ok (.goto 6, 3) := by decide +kernel
theorem dX11_look_195 : decode cX11_look 195 = .ok (.sipush (-1000), 3) := by decide +kernel
theorem dX11_look_198 : decode cX11_look 198 = .ok (.ireturn, 1) := by decide +kernel
theorem dX11_fly_0 : decode cX11_fly 0 = .ok (.iload_n 1, 1) := by decide +kernel
theorem dX11_fly_1 : decode cX11_fly 1 = .ok (.iconst 0, 1) := by decide +kernel
theorem dX11_fly_2 : decode cX11_fly 2 = .ok (.bipush 99, 2) := by decide +kernel
theorem dX11_fly_4 : decode cX11_fly 4 = .ok (.invokestatic 51, 3) := by decide +kernel
theorem dX11_fly_7 : decode cX11_fly 7 = .ok (.ifCond .eq 63, 3) := by decide +kernel
theorem dX11_fly_10 : decode cX11_fly 10 = .ok (.iload_n 2, 1) := by decide +kernel
theorem dX11_fly_11 : decode cX11_fly 11 = .ok (.iconst 0, 1) := by decide +kernel
theorem dX11_fly_12 : decode cX11_fly 12 = .ok (.bipush 90, 2) := by decide +kernel
theorem dX11_fly_14 : decode cX11_fly 14 = .ok (.invokestatic 51, 3) := by decide +kernel
theorem dX11_fly_17 : decode cX11_fly 17 = .ok (.ifCond .eq 53, 3) := by decide +kernel
theorem dX11_fly_20 : decode cX11_fly 20 = .ok (.iload_n 3, 1) := by decide +kernel
theorem dX11_fly_21 : decode cX11_fly 21 = .ok (.bipush (-9), 2) := by decide +kernel
theorem dX11_fly_23 : decode cX11_fly 23 = .ok (.bipush 9, 2) := by decide +kernel
theorem dX11_fly_25 : decode cX11_fly 25 = .ok (.invokestatic 51, 3) := by decide +kernel
theorem dX11_fly_28 : decode cX11_fly 28 = .ok (.ifCond .eq 42, 3) := by decide +kernel
theorem dX11_fly_31 : decode cX11_fly 31 = .ok (.aload_n 0, 1) := by decide +kernel
theorem dX11_fly_32 : decode cX11_fly 32 = .ok (.getfield 10, 3) := by decide +kernel
theorem dX11_fly_35 : decode cX11_fly 35 = .ok (.iload 4, 2) := by decide +kernel
theorem dX11_fly_37 : decode cX11_fly 37 = .ok (.invokevirtual 193, 3) := by decide +kernel
theorem dX11_fly_40 : decode cX11_fly 40 = .ok (.ifCond .eq 30, 3) := by decide +kernel
theorem dX11_fly_43 : decode cX11_fly 43 = .ok (.iload 5, 2) := by decide +kernel
theorem dX11_fly_45 : decode cX11_fly 45 = .ok (.invokestatic 329, 3) := by decide +kernel
theorem dX11_fly_48 : decode cX11_fly 48 = .ok (.ifCond .eq 22, 3) := by decide +kernel
theorem dX11_fly_51 : decode cX11_fly 51 = .ok (.iload 6, 2) := by decide +kernel
theorem dX11_fly_53 : decode cX11_fly 53 = .ok (.invokestatic 329, 3) := by decide +kernel
theorem dX11_fly_56 : decode cX11_fly 56 = .ok (.ifCond .eq 14, 3) := by decide +kernel
theorem dX11_fly_59 : decode cX11_fly 59 = .ok (.iload 7, 2) := by decide +kernel
theorem dX11_fly_61 : decode cX11_fly 61 = .ok (.iconst 0, 1) := by decide +kernel
theorem dX11_fly_62 : decode cX11_fly 62 = .ok (.bipush 6, 2) := by decide +kernel
theorem dX11_fly_64 : decode cX11_fly 64 = .ok (.invokestatic 51, 3) := by decide +kernel
theorem dX11_fly_67 : decode cX11_fly 67 = .ok (.ifCond .ne 7, 3) := by decide +kernel
theorem dX11_fly_70 : decode cX11_fly 70 = .ok (.sipush (-10000), 3) := by decide +kernel
theorem dX11_fly_73 : decode cX11_fly 73 = .ok (.ireturn, 1) := by decide +kernel
theorem dX11_fly_74 : decode cX11_fly 74 = .ok (.aload_n 0, 1) := by decide +kernel
theorem dX11_fly_75 : decode cX11_fly 75 = .ok (.getfield 26, 3) := by decide +kernel
theorem dX11_fly_78 : decode cX11_fly 78 = .ok (.getfield 232, 3) := by decide +kernel
theorem dX11_fly_81 : decode cX11_fly 81 = .ok (.astore 8, 2) := by decide +kernel
theorem dX11_fly_83 : decode cX11_fly 83 = .ok (.aload 8, 2) := by decide +kernel
theorem dX11_fly_85 : decode cX11_fly 85 = .ok (.aload_n 0, 1) := by decide +kernel
theorem dX11_fly_86 : decode cX11_fly 86 = .ok (.getfield 10, 3) := by decide +kernel
theorem dX11_fly_89 : decode cX11_fly 89 = .ok (.iload_n 1, 1) := by decide +kernel
theorem dX11_fly_90 : decode cX11_fly 90 = .ok (.iload_n 2, 1) := by decide +kernel
theorem dX11_fly_91 : decode cX11_fly 91 = .ok (.iload_n 3, 1) := by decide +kernel
theorem dX11_fly_92 : decode cX11_fly 92 = .ok (.iload 4, 2) := by decide +kernel
theorem dX11_fly_94 : decode cX11_fly 94 = .ok (.iload 5, 2) := by decide +kernel
theorem dX11_fly_96 : decode cX11_fly 96 = .ok (.iload 6, 2) := by decide +kernel
theorem dX11_fly_98 : decode cX11_fly 98 = .ok (.invokevirtual 235, 3) := by decide +kernel
theorem dX11_fly_101 : decode cX11_fly 101 = .ok (.aload 8, 2) := by decide +kernel
theorem dX11_fly_103 : decode cX11_fly 103 = .ok (.aload_n 0, 1) := by decide +kernel
theorem dX11_fly_104 : decode cX11_fly 104 = .ok (.getfield 10, 3) := by decide +kernel
theorem dX11_fly_107 : decode cX11_fly 107 = .ok (.getfield 114, 3) := by decide +kernel
theorem dX11_fly_110 : decode cX11_fly 110 = .ok (.sipush 400, 3) := by decide +kernel
theorem dX11_fly_113 : decode cX11_fly 113 = .ok (.invokevirtual 240, 3) := by decide +kernel
theorem dX11_fly_116 : decode cX11_fly 116 = .ok (.iload 7, 2) := by decide +kernel
theorem dX11_fly_118 : decode cX11_fly 118 = .ok (.tableswitch 94 0 5 #[38, 44, 50, 56, 65, 71], 38) := by decide +kernel
theorem dX11_fly_156 : decode cX11_fly 156 = .ok (.aload 8, 2) := by decide +kernel
theorem dX11_fly_158 : decode cX11_fly 158 = .ok (.getfield 253, 3) := by decide +kernel
theorem dX11_fly_161 : decode cX11_fly 161 = .ok (.ireturn, 1) := by decide +kernel
theorem dX11_fly_162 : decode cX11_fly 162 = .ok (.aload 8, 2) := by decide +kernel
theorem dX11_fly_164 : decode cX11_fly 164 = .ok (.invokevirtual 332, 3) := by decide +kernel
theorem dX11_fly_167 : decode cX11_fly 167 = .ok (.ireturn, 1) := by decide +kernel
theorem dX11_fly_168 : decode cX11_fly 168 = .ok (.aload 8, 2) := by decide +kernel
theorem dX11_fly_170 : decode cX11_fly 170 = .ok (.getfield 336, 3) := by decide +kernel
theorem dX11_fly_173 : decode cX11_fly 173 = .ok (.ireturn, 1) := by decide +kernel
theorem dX11_fly_174 : decode cX11_fly 174 = .ok (.aload 8, 2) := by decide +kernel
theorem dX11_fly_176 : decode cX11_fly 176 = .ok (.getfield 339, 3) := by decide +kernel
theorem dX11_fly_179 : decode cX11_fly 179 = .ok (.bipush 8, 2) := by decide +kernel
theorem dX11_fly_181 : decode cX11_fly 181 = .ok (.iaload, 1) := by decide +kernel
theorem dX11_fly_182 : decode cX11_fly 182 = .ok (.ireturn, 1) := by decide +kernel
theorem dX11_fly_183 : decode cX11_fly 183 = .ok (.aload 8, 2) := by decide +kernel
theorem dX11_fly_185 : decode cX11_fly 185 = .ok (.getfield 342, 3) := by decide +kernel
theorem dX11_fly_188 : decode cX11_fly 188 = .ok (.ireturn, 1) := by decide +kernel
theorem dX11_fly_189 : decode cX11_fly 189 = .ok (.aload 8, 2) := by decide +kernel
theorem dX11_fly_191 : decode cX11_fly 191 = .ok (.aload_n 0, 1) := by decide +kernel
theorem dX11_fly_192 : decode cX11_fly 192 = .ok (.getfield 10, 3) := by decide +kernel
theorem dX11_fly_195 : decode cX11_fly 195 = .ok (.getfield 222, 3) := by decide +kernel
theorem dX11_fly_198 : decode cX11_fly 198 = .ok (.iconst 4, 1) := by decide +kernel
theorem dX11_fly_199 : decode cX11_fly 199 = .ok (.iaload, 1) := by decide +kernel
theorem dX11_fly_200 : decode cX11_fly 200 = .ok (.invokevirtual 244, 3) := by decide +kernel
theorem dX11_fly_203 : decode cX11_fly 203 = .ok (.ifCond .ne 7, 3) := by decide +kernel
theorem dX11_fly_206 : decode cX11_fly 206 = .ok (.iconst 1, 1) := by decide +kernel
theorem dX11_fly_207 : decode cX11_fly 207 = .ok (.goto 4, 3) := by decide +kernel
theorem dX11_fly_210 : decode cX11_fly 210 = .ok (.iconst 0, 1) := by decide +kernel
theorem dX11_fly_211 : decode cX11_fly 211 = .ok (.ireturn, 1) := by decide +kernel
theorem dX11_fly_212 : decode cX11_fly 212 = .ok (.aload 8, 2) := by decide +kernel
theorem dX11_fly_214 : decode cX11_fly 214 = .ok (.getfield 339, 3) := by decide +kernel
theorem dX11_fly_217 : decode cX11_fly 217 = .ok (.iconst 3, 1) := by decide +kernel
theorem dX11_fly_218 : decode cX11_fly 218 = .ok (.iaload, 1) := by decide +kernel
theorem dX11_fly_219 : decode cX11_fly 219 = .ok (.ireturn, 1) := by decide +kernel
theorem dX11_canBlow_0 : decode cX11_canBlow 0 = .ok (.iload_n 0, 1) := by decide +kernel
theorem dX11_canBlow_1 : decode cX11_canBlow 1 = .ok (.bipush (-29), 2) := by decide +kernel
theorem dX11_canBlow_3 : decode cX11_canBlow 3 = .ok (.bipush 29, 2) := by decide +kernel
theorem dX11_canBlow_5 : decode cX11_canBlow 5 = .ok (.invokestatic 51, 3) := by decide +kernel
theorem dX11_canBlow_8 : decode cX11_canBlow 8 = .ok (.ireturn, 1) := by decide +kernel
theorem dX11_angle_0 : decode cX11_angle 0 = .ok (.aload_n 0, 1) := by decide +kernel
theorem dX11_angle_1 : decode cX11_angle 1 = .ok (.iload_n 1, 1) := by decide +kernel
theorem dX11_angle_2 : decode cX11_angle 2 = .ok (.iconst 0, 1) := by decide +kernel
theorem dX11_angle_3 : decode cX11_angle 3 = .ok (.iload_n 2, 1) := by decide +kernel
theorem dX11_angle_4 : decode cX11_angle 4 = .ok (.invokevirtual 186, 3) := by decide +kernel
theorem dX11_angle_7 : decode cX11_angle 7 = .ok (.ifCond .eq 20, 3) := by decide +kernel
theorem dX11_angle_10 : decode cX11_angle 10 = .ok (.iload_n 3, 1) := by decide +kernel
theorem dX11_angle_11 : decode cX11_angle 11 = .ok (.invokestatic 329, 3) := by decide +kernel
theorem dX11_angle_14 : decode cX11_angle 14 = .ok (.ifCond .eq 13, 3) := by decide +kernel
theorem dX11_angle_17 : decode cX11_angle 17 = .ok (.iload 4, 2) := by decide +kernel
theorem dX11_angle_19 : decode cX11_angle 19 = .ok (.iconst 0, 1) := by decide +kernel
theorem dX11_angle_20 : decode cX11_angle 20 = .ok (.iconst 3, 1) := by decide +kernel
theorem dX11_angle_21 : decode cX11_angle 21 = .ok (.invokestatic 51, 3) := by decide +kernel
theorem dX11_angle_24 : decode cX11_angle 24 = .ok (.ifCond .ne 5, 3) := by decide +kernel
theorem dX11_angle_27 : decode cX11_angle 27 = .ok (.iconst (-1), 1) := by decide +kernel
theorem dX11_angle_28 : decode cX11_angle 28 = .ok (.ireturn, 1) := by decide +kernel
theorem dX11_angle_29 : decode cX11_angle 29 = .ok (.iload 4, 2) := by decide +kernel
theorem dX11_angle_31 : decode cX11_angle 31 = .ok (.iconst 2, 1) := by decide +kernel
theorem dX11_angle_32 : decode cX11_angle 32 = .ok (.if_icmp .ge 20, 3) := by decide +kernel
theorem dX11_angle_35 : decode cX11_angle 35 = .ok (.aload_n 0, 1) := by decide +kernel
theorem dX11_angle_36 : decode cX11_angle 36 = .ok (.getfield 26, 3) := by decide +kernel
theorem dX11_angle_39 : decode cX11_angle 39 = .ok (.aload_n 0, 1) := by decide +kernel
theorem dX11_angle_40 : decode cX11_angle 40 = .ok (.getfield 10, 3) := by decide +kernel
theorem dX11_angle_43 : decode cX11_angle 43 = .ok (.iload_n 1, 1) := by decide +kernel
theorem dX11_angle_44 : decode cX11_angle 44 = .ok (.iload_n 2, 1) := by decide +kernel
theorem dX11_angle_45 : decode cX11_angle 45 = .ok (.iload_n 3, 1) := by decide +kernel
theorem dX11_angle_46 : decode cX11_angle 46 = .ok (.invokevirtual 345, 3) := by decide +kernel
theorem dX11_angle_49 : decode cX11_angle 49 = .ok (.goto 17, 3) := by decide +kernel
theorem dX11_angle_52 : decode cX11_angle 52 = .ok (.aload_n 0, 1) := by decide +kernel
theorem dX11_angle_53 : decode cX11_angle 53 = .ok (.getfield 26, 3) := by decide +kernel
theorem dX11_angle_56 : decode cX11_angle 56 = .ok (.aload_n 0, 1) := by decide +kernel
theorem dX11_angle_57 : decode cX11_angle 57 = .ok (.getfield 10, 3) := by decide +kernel
theorem dX11_angle_60 : decode cX11_angle 60 = .ok (.iload_n 1, 1) := by decide +kernel
theorem dX11_angle_61 : decode cX11_angle 61 = .ok (.iload_n 2, 1) := by decide +kernel
theorem dX11_angle_62 : decode cX11_angle 62 = .ok (.iload_n 3, 1) := by decide +kernel
theorem dX11_angle_63 : decode cX11_angle 63 = .ok (.invokevirtual 349, 3) := by decide +kernel
theorem dX11_angle_66 : decode cX11_angle 66 = .ok (.iload 4, 2) := by decide +kernel
theorem dX11_angle_68 : decode cX11_angle 68 = .ok (.iconst 2, 1) := by decide +kernel
theorem dX11_angle_69 : decode cX11_angle 69 = .ok (.irem, 1) := by decide +kernel
theorem dX11_angle_70 : decode cX11_angle 70 = .ok (.ifCond .ne 13, 3) := by decide +kernel
theorem dX11_angle_73 : decode cX11_angle 73 = .ok (.aload_n 0, 1) := by decide +kernel
theorem dX11_angle_74 : decode cX11_angle 74 = .ok (.getfield 26, 3) := by decide +kernel
theorem dX11_angle_77 : decode cX11_angle 77 = .ok (.getfield 352, 3) := by decide +kernel
theorem dX11_angle_80 : decode cX11_angle 80 = .ok (.goto 10, 3) := by decide +kernel
theorem dX11_angle_83 : decode cX11_angle 83 = .ok (.aload_n 0, 1) := by decide +kernel
theorem dX11_angle_84 : decode cX11_angle 84 = .ok (.getfield 26, 3) := by decide +kernel
theorem dX11_angle_87 : decode cX11_angle 87 = .ok (.getfield 355, 3) := by decide +kernel
theorem dX11_angle_90 : decode cX11_angle 90 = .ok (.ireturn, 1) := by decide +kernel
theorem dX11_right_0 : decode cX11_right 0 = .ok (.iload_n 1, 1) := by decide +kernel
theorem dX11_right_1 : decode cX11_right 1 = .ok (.iconst 0, 1) := by decide +kernel
theorem dX11_right_2 : decode cX11_right 2 = .ok (.bipush 99, 2) := by decide +kernel
theorem dX11_right_4 : decode cX11_right 4 = .ok (.invokestatic 51, 3) := by decide +kernel
theorem dX11_right_7 : decode cX11_right 7 = .ok (.ifCond .eq 10, 3) := by decide +kernel
theorem dX11_right_10 : decode cX11_right 10 = .ok (.iload_n 2, 1) := by decide +kernel
theorem dX11_right_11 : decode cX11_right 11 = .ok (.invokestatic 329, 3) := by decide +kernel
theorem dX11_right_14 : decode cX11_right 14 = .ok (.ifCond .ne 5, 3) := by decide +kernel
theorem dX11_right_17 : decode cX11_right 17 = .ok (.iconst (-1), 1) := by decide +kernel
theorem dX11_right_18 : decode cX11_right 18 = .ok (.ireturn, 1) := by decide +kernel
theorem dX11_right_19 : decode cX11_right 19 = .ok (.iconst (-1), 1) := by decide +kernel
theorem dX11_right_20 : decode cX11_right 20 = .ok (.istore_n 3, 1) := by decide +kernel
theorem dX11_right_21 : decode cX11_right 21 = .ok (.iconst (-1), 1) := by decide +kernel
theorem dX11_right_22 : decode cX11_right 22 = .ok (.istore 4, 2) := by decide +kernel
theorem dX11_right_24 : decode cX11_right 24 = .ok (.iconst 0, 1) := by decide +kernel
theorem dX11_right_25 : decode cX11_right 25 = .ok (.istore 5, 2) := by decide +kernel
theorem dX11_right_27 : decode cX11_right 27 = .ok (.iload 5, 2) := by decide +kernel
theorem dX11_right_29 : decode cX11_right 29 = .ok (.aload_n 0, 1) := by decide +kernel
theorem dX11_right_30 : decode cX11_right 30 = .ok (.getfield 10, 3) := by decide +kernel
theorem dX11_right_33 : decode cX11_right 33 = .ok (.getfield 55, 3) := by decide +kernel
theorem dX11_right_36 : decode cX11_right 36 = .ok (.if_icmp .ge 48, 3) := by decide +kernel
theorem dX11_right_39 : decode cX11_right 39 = .ok (.aload_n 0, 1) := by decide +kernel
theorem dX11_right_40 : decode cX11_right 40 = .ok (.getfield 26, 3) := by decide +kernel
theorem dX11_right_43 : decode cX11_right 43 = .ok (.aload_n 0, 1) := by decide +kernel
theorem dX11_right_44 : decode cX11_right 44 = .ok (.getfield 10, 3) := by decide +kernel
theorem dX11_right_47 : decode cX11_right 47 = .ok (.iload_n 1, 1) := by decide +kernel
theorem dX11_right_48 : decode cX11_right 48 = .ok (.iload 5, 2) := by decide +kernel
theorem dX11_right_50 : decode cX11_right 50 = .ok (.iload_n 2, 1) := by decide +kernel
theorem dX11_right_51 : decode cX11_right 51 = .ok (.invokevirtual 345, 3) := by decide +kernel
theorem dX11_right_54 : decode cX11_right 54 = .ok (.aload_n 0, 1) := by decide +kernel
theorem dX11_right_55 : decode cX11_right 55 = .ok (.getfield 26, 3) := by decide +kernel
theorem dX11_right_58 : decode cX11_right 58 = .ok (.getfield 355, 3) := by decide +kernel
theorem dX11_right_61 : decode cX11_right 61 = .ok (.iload 4, 2) := by decide +kernel
theorem dX11_right_63 : decode cX11_right 63 = .ok (.if_icmp .le 15, 3) := by decide +kernel
theorem dX11_right_66 : decode cX11_right 66 = .ok (.aload_n 0, 1) := by decide +kernel
theorem dX11_right_67 : decode cX11_right 67 = .ok (.getfield 26, 3) := by decide +kernel
theorem dX11_right_70 : decode cX11_right 70 = .ok (.getfield 355, 3) := by decide +kernel
theorem dX11_right_73 : decode cX11_right 73 = .ok (.istore 4, 2) := by decide +kernel
theorem dX11_right_75 : decode cX11_right 75 = .ok (.iload 5, 2) := by decide +kernel
theorem dX11_right_77 : decode cX11_right 77 = .ok (.istore_n 3, 1) := by decide +kernel
theorem dX11_right_78 : decode cX11_right 78 = .ok (.iinc 5 1, 3) := by decide +kernel
theorem dX11_right_81 : decode cX11_right 81 = .ok (.goto (-54), 3) := by decide +kernel
theorem dX11_right_84 : decode cX11_right 84 = .ok (.iload_n 3, 1) := by decide +kernel
theorem dX11_right_85 : decode cX11_right 85 = .ok (.ireturn, 1) := by decide +kernel
theorem dX11_winds_0 : decode cX11_winds 0 = .ok (.aload_n 0, 1) := by decide +kernel
theorem dX11_winds_1 : decode cX11_winds 1 = .ok (.iload_n 1, 1) := by decide +kernel
theorem dX11_winds_2 : decode cX11_winds 2 = .ok (.iload_n 2, 1) := by decide +kernel
theorem dX11_winds_3 : decode cX11_winds 3 = .ok (.iload_n 3, 1) := by decide +kernel
theorem dX11_winds_4 : decode cX11_winds 4 = .ok (.invokevirtual 186, 3) := by decide +kernel
theorem dX11_winds_7 : decode cX11_winds 7 = .ok (.ifCond .eq 15, 3) := by decide +kernel
theorem dX11_winds_10 : decode cX11_winds 10 = .ok (.iload 5, 2) := by decide +kernel
theorem dX11_winds_12 : decode cX11_winds 12 = .ok (.iconst 0, 1) := by decide +kernel
theorem dX11_winds_13 : decode cX11_winds 13 = .ok (.sipush 999, 3) := by decide +kernel
theorem dX11_winds_16 : decode cX11_winds 16 = .ok (.invokestatic 51, 3) := by decide +kernel
theorem dX11_winds_19 : decode cX11_winds 19 = .ok (.ifCond .ne 7, 3) := by decide +kernel
theorem dX11_winds_22 : decode cX11_winds 22 = .ok (.ldc2_w 358, 3) := by decide +kernel
theorem dX11_winds_25 : decode cX11_winds 25 = .ok (.lreturn, 1) := by decide +kernel
theorem dX11_winds_26 : decode cX11_winds 26 = .ok (.lconst 0, 1) := by decide +kernel
theorem dX11_winds_27 : decode cX11_winds 27 = .ok (.lstore 6, 2) := by decide +kernel
theorem dX11_winds_29 : decode cX11_winds 29 = .ok (.bipush (-20), 2) := by decide +kernel
theorem dX11_winds_31 : decode cX11_winds 31 = .ok (.istore 8, 2) := by decide +kernel
theorem dX11_winds_33 : decode cX11_winds 33 = .ok (.iload 8, 2) := by decide +kernel
theorem dX11_winds_35 : decode cX11_winds 35 = .ok (.bipush 20, 2) := by decide +kernel
theorem dX11_winds_37 : decode cX11_winds 37 = .ok (.if_icmp .gt 56, 3) := by decide +kernel
theorem dX11_winds_40 : decode cX11_winds 40 = .ok (.aload_n 0, 1) := by decide +kernel
theorem dX11_winds_41 : decode cX11_winds 41 = .ok (.getfield 26, 3) := by decide +kernel
theorem dX11_winds_44 : decode cX11_winds 44 = .ok (.aload_n 0, 1) := by decide +kernel
theorem dX11_winds_45 : decode cX11_winds 45 = .ok (.getfield 10, 3) := by decide +kernel
theorem dX11_winds_48 : decode cX11_winds 48 = .ok (.iload_n 1, 1) := by decide +kernel
theorem dX11_winds_49 : decode cX11_winds 49 = .ok (.iload_n 2, 1) := by decide +kernel
theorem dX11_winds_50 : decode cX11_winds 50 = .ok (.iload_n 3, 1) := by decide +kernel
theorem dX11_winds_51 : decode cX11_winds 51 = .ok (.iload 8, 2) := by decide +kernel
theorem dX11_winds_53 : decode cX11_winds 53 = .ok (.invokevirtual 360, 3) := by decide +kernel
theorem dX11_winds_56 : decode cX11_winds 56 = .ok (.i2l, 1) := by decide +kernel
theorem dX11_winds_57 : decode cX11_winds 57 = .ok (.iload 4, 2) := by decide +kernel
theorem dX11_winds_59 : decode cX11_winds 59 = .ok (.i2l, 1) := by decide +kernel
theorem dX11_winds_60 : decode cX11_winds 60 = .ok (.lsub, 1) := by decide +kernel
theorem dX11_winds_61 : decode cX11_winds 61 = .ok (.lstore 9, 2) := by decide +kernel
theorem dX11_winds_63 : decode cX11_winds 63 = .ok (.lload 9, 2) := by decide +kernel
theorem dX11_winds_65 : decode cX11_winds 65 = .ok (.invokestatic 363, 3) := by decide +kernel
theorem dX11_winds_68 : decode cX11_winds 68 = .ok (.iload 5, 2) := by decide +kernel
theorem dX11_winds_70 : decode cX11_winds 70 = .ok (.i2l, 1) := by decide +kernel
theorem dX11_winds_71 : decode cX11_winds 71 = .ok (.lcmp, 1) := by decide +kernel
theorem dX11_winds_72 : decode cX11_winds 72 = .ok (.ifCond .gt 15, 3) := by decide +kernel
theorem dX11_winds_75 : decode cX11_winds 75 = .ok (.lload 6, 2) := by decide +kernel
theorem dX11_winds_77 : decode cX11_winds 77 = .ok (.lconst 1, 1) := by decide +kernel
theorem dX11_winds_78 : decode cX11_winds 78 = .ok (.iload 8, 2) := by decide +kernel
theorem dX11_winds_80 : decode cX11_winds 80 = .ok (.bipush 20, 2) := by decide +kernel
theorem dX11_winds_82 : decode cX11_winds 82 = .ok (.iadd, 1) := by decide +kernel
theorem dX11_winds_83 : decode cX11_winds 83 = .ok (.lshl, 1) := by decide +kernel
theorem dX11_winds_84 : decode cX11_winds 84 = .ok (.lor, 1) := by decide +kernel
theorem dX11_winds_85 : decode cX11_winds 85 = .ok (.lstore 6, 2) := by decide +kernel
theorem dX11_winds_87 : decode cX11_winds 87 = .ok (.iinc 8 1, 3) := by decide +kernel
theorem dX11_winds_90 : decode cX11_winds 90 = .ok (.goto (-57), 3) := by decide +kernel
theorem dX11_winds_93 : decode cX11_winds 93 = .ok (.lload 6, 2) := by decide +kernel
theorem dX11_winds_95 : decode cX11_winds 95 = .ok (.lreturn, 1) := by decide +kernel
theorem dX11_still_0 : decode cX11_still 0 = .ok (.aload_n 0, 1) := by decide +kernel
theorem dX11_still_1 : decode cX11_still 1 = .ok (.getfield 10, 3) := by decide +kernel
theorem dX11_still_4 : decode cX11_still 4 = .ok (.iload_n 1, 1) := by decide +kernel
theorem dX11_still_5 : decode cX11_still 5 = .ok (.invokevirtual 310, 3) := by decide +kernel
theorem dX11_still_8 : decode cX11_still 8 = .ok (.ifCond .ne 5, 3) := by decide +kernel
theorem dX11_still_11 : decode cX11_still 11 = .ok (.iconst (-1), 1) := by decide +kernel
theorem dX11_still_12 : decode cX11_still 12 = .ok (.ireturn, 1) := by decide +kernel
theorem dX11_still_13 : decode cX11_still 13 = .ok (.aload_n 0, 1) := by decide +kernel
theorem dX11_still_14 : decode cX11_still 14 = .ok (.getfield 26, 3) := by decide +kernel
theorem dX11_still_17 : decode cX11_still 17 = .ok (.aload_n 0, 1) := by decide +kernel
theorem dX11_still_18 : decode cX11_still 18 = .ok (.getfield 10, 3) := by decide +kernel
theorem dX11_still_21 : decode cX11_still 21 = .ok (.aload_n 0, 1) := by decide +kernel
theorem dX11_still_22 : decode cX11_still 22 = .ok (.getfield 10, 3) := by decide +kernel
theorem dX11_still_25 : decode cX11_still 25 = .ok (.iload_n 1, 1) := by decide +kernel
theorem dX11_still_26 : decode cX11_still 26 = .ok (.iconst 4, 1) := by decide +kernel
theorem dX11_still_27 : decode cX11_still 27 = .ok (.invokevirtual 313, 3) := by decide +kernel
theorem dX11_still_30 : decode cX11_still 30 = .ok (.aload_n 0, 1) := by decide +kernel
theorem dX11_still_31 : decode cX11_still 31 = .ok (.getfield 10, 3) := by decide +kernel
theorem dX11_still_34 : decode cX11_still 34 = .ok (.iload_n 1, 1) := by decide +kernel
theorem dX11_still_35 : decode cX11_still 35 = .ok (.iconst 5, 1) := by decide +kernel
theorem dX11_still_36 : decode cX11_still 36 = .ok (.invokevirtual 313, 3) := by decide +kernel
theorem dX11_still_39 : decode cX11_still 39 = .ok (.aload_n 0, 1) := by decide +kernel
theorem dX11_still_40 : decode cX11_still 40 = .ok (.getfield 10, 3) := by decide +kernel
theorem dX11_still_43 : decode cX11_still 43 = .ok (.iload_n 1, 1) := by decide +kernel
theorem dX11_still_44 : decode cX11_still 44 = .ok (.iconst 3, 1) := by decide +kernel
theorem dX11_still_45 : decode cX11_still 45 = .ok (.invokevirtual 313, 3) := by decide +kernel
theorem dX11_still_48 : decode cX11_still 48 = .ok (.iconst 0, 1) := by decide +kernel
theorem dX11_still_49 : decode cX11_still 49 = .ok (.invokevirtual 360, 3) := by decide +kernel
theorem dX11_still_52 : decode cX11_still 52 = .ok (.ireturn, 1) := by decide +kernel
theorem dX11_holds_0 : decode cX11_holds 0 = .ok (.aload_n 0, 1) := by decide +kernel
theorem dX11_holds_1 : decode cX11_holds 1 = .ok (.getfield 10, 3) := by decide +kernel
theorem dX11_holds_4 : decode cX11_holds 4 = .ok (.iload_n 1, 1) := by decide +kernel
theorem dX11_holds_5 : decode cX11_holds 5 = .ok (.invokevirtual 80, 3) := by decide +kernel
theorem dX11_holds_8 : decode cX11_holds 8 = .ok (.astore 4, 2) := by decide +kernel
theorem dX11_holds_10 : decode cX11_holds 10 = .ok (.aload 4, 2) := by decide +kernel
theorem dX11_holds_12 : decode cX11_holds 12 = .ok (.ifnull 23, 3) := by decide +kernel
theorem dX11_holds_15 : decode cX11_holds 15 = .ok (.iload_n 2, 1) := by decide +kernel
theorem dX11_holds_16 : decode cX11_holds 16 = .ok (.iconst 0, 1) := by decide +kernel
theorem dX11_holds_17 : decode cX11_holds 17 = .ok (.bipush 99, 2) := by decide +kernel
theorem dX11_holds_19 : decode cX11_holds 19 = .ok (.invokestatic 51, 3) := by decide +kernel
theorem dX11_holds_22 : decode cX11_holds 22 = .ok (.ifCond .eq 13, 3) := by decide +kernel
theorem dX11_holds_25 : decode cX11_holds 25 = .ok (.iload_n 3, 1) := by decide +kernel
theorem dX11_holds_26 : decode cX11_holds 26 = .ok (.iconst 0, 1) := by decide +kernel
theorem dX11_holds_27 : decode cX11_holds 27 = .ok (.bipush 60, 2) := by decide +kernel
theorem dX11_holds_29 : decode cX11_holds 29 = .ok (.invokestatic 51, 3) := by decide +kernel
theorem dX11_holds_32 : decode cX11_holds 32 = .ok (.ifCond .ne 5, 3) := by decide +kernel
theorem dX11_holds_35 : decode cX11_holds 35 = .ok (.iconst (-1), 1) := by decide +kernel
theorem dX11_holds_36 : decode cX11_holds 36 = .ok (.ireturn, 1) := by decide +kernel
theorem dX11_holds_37 : decode cX11_holds 37 = .ok (.aload_n 0, 1) := by decide +kernel
theorem dX11_holds_38 : decode cX11_holds 38 = .ok (.getfield 33, 3) := by decide +kernel
theorem dX11_holds_41 : decode cX11_holds 41 = .ok (.aload 4, 2) := by decide +kernel
theorem dX11_holds_43 : decode cX11_holds 43 = .ok (.aload_n 0, 1) := by decide +kernel
theorem dX11_holds_44 : decode cX11_holds 44 = .ok (.getfield 10, 3) := by decide +kernel
theorem dX11_holds_47 : decode cX11_holds 47 = .ok (.getfield 205, 3) := by decide +kernel
theorem dX11_holds_50 : decode cX11_holds 50 = .ok (.invokevirtual 208, 3) := by decide +kernel
theorem dX11_holds_53 : decode cX11_holds 53 = .ok (.aload_n 0, 1) := by decide +kernel
theorem dX11_holds_54 : decode cX11_holds 54 = .ok (.getfield 33, 3) := by decide +kernel
theorem dX11_holds_57 : decode cX11_holds 57 = .ok (.iload_n 2, 1) := by decide +kernel
theorem dX11_holds_58 : decode cX11_holds 58 = .ok (.aload 4, 2) := by decide +kernel
theorem dX11_holds_60 : decode cX11_holds 60 = .ok (.getfield 84, 3) := by decide +kernel
theorem dX11_holds_63 : decode cX11_holds 63 = .ok (.invokestatic 200, 3) := by decide +kernel
theorem dX11_holds_66 : decode cX11_holds 66 = .ok (.iconst 0, 1) := by decide +kernel
theorem dX11_holds_67 : decode cX11_holds 67 = .ok (.iload_n 3, 1) := by decide +kernel
theorem dX11_holds_68 : decode cX11_holds 68 = .ok (.invokevirtual 212, 3) := by decide +kernel
theorem dX11_holds_71 : decode cX11_holds 71 = .ok (.aload 4, 2) := by decide +kernel
theorem dX11_holds_73 : decode cX11_holds 73 = .ok (.getfield 89, 3) := by decide +kernel
theorem dX11_holds_76 : decode cX11_holds 76 = .ok (.istore 5, 2) := by decide +kernel
theorem dX11_holds_78 : decode cX11_holds 78 = .ok (.iconst 0, 1) := by decide +kernel
theorem dX11_holds_79 : decode cX11_holds 79 = .ok (.istore 6, 2) := by decide +kernel
theorem dX11_holds_81 : decode cX11_holds 81 = .ok (.iconst 0, 1) := by decide +kernel
theorem dX11_holds_82 : decode cX11_holds 82 = .ok (.istore 7, 2) := by decide +kernel
theorem dX11_holds_84 : decode cX11_holds 84 = .ok (.iload 7, 2) := by decide +kernel
theorem dX11_holds_86 : decode cX11_holds 86 = .ok (.bipush 60, 2) := by decide +kernel
theorem dX11_holds_88 : decode cX11_holds 88 = .ok (.if_icmp .ge 63, 3) := by decide +kernel
theorem dX11_holds_91 : decode cX11_holds 91 = .ok (.iload 5, 2) := by decide +kernel
theorem dX11_holds_93 : decode cX11_holds 93 = .ok (.sipush 1000, 3) := by decide +kernel
theorem dX11_holds_96 : decode cX11_holds 96 = .ok (.if_icmp .ge 55, 3) := by decide +kernel
theorem dX11_holds_99 : decode cX11_holds 99 = .ok (.aload_n 0, 1) := by decide +kernel
theorem dX11_holds_100 : decode cX11_holds 100 = .ok (.getfield 33, 3) := by decide +kernel
theorem dX11_holds_103 : decode cX11_holds 103 = .ok (.iload 5, 2) := by decide +kernel
theorem dX11_holds_105 : decode cX11_holds 105 = .ok (.aload 4, 2) := by decide +kernel
theorem dX11_holds_107 : decode cX11_holds 107 = .ok (.getfield 247, 3) := by decide +kernel
theorem dX11_holds_110 : decode cX11_holds 110 = .ok (.iload 7, 2) := by decide +kernel
theorem dX11_holds_112 : decode cX11_holds 112 = .ok (.iadd, 1) := by decide +kernel
theorem dX11_holds_113 : decode cX11_holds 113 = .ok (.invokevirtual 367, 3) := by decide +kernel
theorem dX11_holds_116 : decode cX11_holds 116 = .ok (.sipush 1000, 3) := by decide +kernel
theorem dX11_holds_119 : decode cX11_holds 119 = .ok (.iload 5, 2) := by decide +kernel
theorem dX11_holds_121 : decode cX11_holds 121 = .ok (.aload_n 0, 1) := by decide +kernel
theorem dX11_holds_122 : decode cX11_holds 122 = .ok (.getfield 33, 3) := by decide +kernel
theorem dX11_holds_125 : decode cX11_holds 125 = .ok (.aload_n 0, 1) := by decide +kernel
theorem dX11_holds_126 : decode cX11_holds 126 = .ok (.getfield 10, 3) := by decide +kernel
theorem dX11_holds_129 : decode cX11_holds 129 = .ok (.getfield 124, 3) := by decide +kernel
theorem dX11_holds_132 : decode cX11_holds 132 = .ok (.iconst 1, 1) := by decide +kernel
theorem dX11_holds_133 : decode cX11_holds 133 = .ok (.invokevirtual 216, 3) := by decide +kernel
theorem dX11_holds_136 : decode cX11_holds 136 = .ok (.iadd, 1) := by decide +kernel
theorem dX11_holds_137 : decode cX11_holds 137 = .ok (.invokestatic 200, 3) := by decide +kernel
theorem dX11_holds_140 : decode cX11_holds 140 = .ok (.istore 5, 2) := by decide +kernel
theorem dX11_holds_142 : decode cX11_holds 142 = .ok (.iinc 6 1, 3) := by decide +kernel
theorem dX11_holds_145 : decode cX11_holds 145 = .ok (.iinc 7 1, 3) := by decide +kernel
theorem dX11_holds_148 : decode cX11_holds 148 = .ok (.goto (-64), 3) := by decide +kernel
theorem dX11_holds_151 : decode cX11_holds 151 = .ok (.iload 6, 2) := by decide +kernel
theorem dX11_holds_153 : decode cX11_holds 153 = .ok (.ireturn, 1) := by decide +kernel
theorem dX11_chance_0 : decode cX11_chance 0 = .ok (.aload_n 0, 1) := by decide +kernel
theorem dX11_chance_1 : decode cX11_chance 1 = .ok (.getfield 10, 3) := by decide +kernel
theorem dX11_chance_4 : decode cX11_chance 4 = .ok (.iload_n 1, 1) := by decide +kernel
theorem dX11_chance_5 : decode cX11_chance 5 = .ok (.invokevirtual 80, 3) := by decide +kernel
theorem dX11_chance_8 : decode cX11_chance 8 = .ok (.astore 7, 2) := by decide +kernel
theorem dX11_chance_10 : decode cX11_chance 10 = .ok (.aload 7, 2) := by decide +kernel
theorem dX11_chance_12 : decode cX11_chance 12 = .ok (.ifnull 35, 3) := by decide +kernel
theorem dX11_chance_15 : decode cX11_chance 15 = .ok (.iload_n 3, 1) := by decide +kernel
theorem dX11_chance_16 : decode cX11_chance 16 = .ok (.iconst 0, 1) := by decide +kernel
theorem dX11_chance_17 : decode cX11_chance 17 = .ok (.bipush 6, 2) := by decide +kernel
theorem dX11_chance_19 : decode cX11_chance 19 = .ok (.invokestatic 51, 3) := by decide +kernel
theorem dX11_chance_22 : decode cX11_chance 22 = .ok (.ifCond .eq 25, 3) := by decide +kernel
theorem dX11_chance_25 : decode cX11_chance 25 = .ok (.aload_n 0, 1) := by decide +kernel
theorem dX11_chance_26 : decode cX11_chance 26 = .ok (.iconst 0, 1) := by decide +kernel
theorem dX11_chance_27 : decode cX11_chance 27 = .ok (.iload 4, 2) := by decide +kernel
theorem dX11_chance_29 : decode cX11_chance 29 = .ok (.iload 5, 2) := by decide +kernel
theorem dX11_chance_31 : decode cX11_chance 31 = .ok (.invokevirtual 186, 3) := by decide +kernel
theorem dX11_chance_34 : decode cX11_chance 34 = .ok (.ifCond .eq 13, 3) := by decide +kernel
theorem dX11_chance_37 : decode cX11_chance 37 = .ok (.iload 6, 2) := by decide +kernel
theorem dX11_chance_39 : decode cX11_chance 39 = .ok (.iconst 0, 1) := by decide +kernel
theorem dX11_chance_40 : decode cX11_chance 40 = .ok (.iconst 1, 1) := by decide +kernel
theorem dX11_chance_41 : decode cX11_chance 41 = .ok (.invokestatic 51, 3) := by decide +kernel
theorem dX11_chance_44 : decode cX11_chance 44 = .ok (.ifCond .ne 5, 3) := by decide +kernel
theorem dX11_chance_47 : decode cX11_chance 47 = .ok (.iconst (-1), 1) := by decide +kernel
theorem dX11_chance_48 : decode cX11_chance 48 = .ok (.ireturn, 1) := by decide +kernel
theorem dX11_chance_49 : decode cX11_chance 49 = .ok (.aload_n 0, 1) := by decide +kernel
theorem dX11_chance_50 : decode cX11_chance 50 = .ok (.getfield 371, 3) := by decide +kernel
theorem dX11_chance_53 : decode cX11_chance 53 = .ok (.ifnonnull 14, 3) := by decide +kernel
theorem dX11_chance_56 : decode cX11_chance 56 = .ok (.aload_n 0, 1) := by decide +kernel
theorem dX11_chance_57 : decode cX11_chance 57 = .ok (.new 375, 3) := by decide +kernel
theorem dX11_chance_60 : decode cX11_chance 60 = .ok (.dup, 1) := by decide +kernel
theorem dX11_chance_61 : decode cX11_chance 61 = .ok (.invokespecial 377, 3) := by decide +kernel
theorem dX11_chance_64 : decode cX11_chance 64 = .ok (.putfield 371, 3) := by decide +kernel
theorem dX11_chance_67 : decode cX11_chance 67 = .ok (.iconst 0, 1) := by decide +kernel
theorem dX11_chance_68 : decode cX11_chance 68 = .ok (.istore 8, 2) := by decide +kernel
theorem dX11_chance_70 : decode cX11_chance 70 = .ok (.iload 8, 2) := by decide +kernel
theorem dX11_chance_72 : decode cX11_chance 72 = .ok (.bipush 10, 2) := by decide +kernel
theorem dX11_chance_74 : decode cX11_chance 74 = .ok (.if_icmp .ge 67, 3) := by decide +kernel
theorem dX11_chance_77 : decode cX11_chance 77 = .ok (.aload_n 0, 1) := by decide +kernel
theorem dX11_chance_78 : decode cX11_chance 78 = .ok (.getfield 26, 3) := by decide +kernel
theorem dX11_chance_81 : decode cX11_chance 81 = .ok (.aload_n 0, 1) := by decide +kernel
theorem dX11_chance_82 : decode cX11_chance 82 = .ok (.getfield 10, 3) := by decide +kernel
theorem dX11_chance_85 : decode cX11_chance 85 = .ok (.iload 8, 2) := by decide +kernel
theorem dX11_chance_87 : decode cX11_chance 87 = .ok (.invokestatic 378, 3) := by decide +kernel
theorem dX11_chance_90 : decode cX11_chance 90 = .ok (.iload 4, 2) := by decide +kernel
theorem dX11_chance_92 : decode cX11_chance 92 = .ok (.iload 5, 2) := by decide +kernel
theorem dX11_chance_94 : decode cX11_chance 94 = .ok (.aload_n 0, 1) := by decide +kernel
theorem dX11_chance_95 : decode cX11_chance 95 = .ok (.getfield 10, 3) := by decide +kernel
theorem dX11_chance_98 : decode cX11_chance 98 = .ok (.getfield 222, 3) := by decide +kernel
theorem dX11_chance_101 : decode cX11_chance 101 = .ok (.iconst 0, 1) := by decide +kernel
theorem dX11_chance_102 : decode cX11_chance 102 = .ok (.iaload, 1) := by decide +kernel
theorem dX11_chance_103 : decode cX11_chance 103 = .ok (.invokevirtual 381, 3) := by decide +kernel
theorem dX11_chance_106 : decode cX11_chance 106 = .ok (.istore 9, 2) := by decide +kernel
theorem dX11_chance_108 : decode cX11_chance 108 = .ok (.aload_n 0, 1) := by decide +kernel
theorem dX11_chance_109 : decode cX11_chance 109 = .ok (.getfield 371, 3) := by decide +kernel
theorem dX11_chance_112 : decode cX11_chance 112 = .ok (.getfield 384, 3) := by decide +kernel
theorem dX11_chance_115 : decode cX11_chance 115 = .ok (.iload 8, 2) := by decide +kernel
theorem dX11_chance_117 : decode cX11_chance 117 = .ok (.iload 9, 2) := by decide +kernel
theorem dX11_chance_119 : decode cX11_chance 119 = .ok (.iconst (-1), 1) := by decide +kernel
theorem dX11_chance_120 : decode cX11_chance 120 = .ok (.if_icmp .eq 13, 3) := by decide +kernel
theorem dX11_chance_123 : decode cX11_chance 123 = .ok (.iload 9, 2) := by decide +kernel
theorem dX11_chance_125 : decode cX11_chance 125 = .ok (.iload_n 2, 1) := by decide +kernel
theorem dX11_chance_126 : decode cX11_chance 126 = .ok (.if_icmp .lt 7, 3) := by decide +kernel
theorem dX11_chance_129 : decode cX11_chance 129 = .ok (.iconst 1, 1) := by decide +kernel
theorem dX11_chance_130 : decode cX11_chance 130 = .ok (.goto 4, 3) := by decide +kernel
theorem dX11_chance_133 : decode cX11_chance 133 = .ok (.iconst 0, 1) := by decide +kernel
theorem dX11_chance_134 : decode cX11_chance 134 = .ok (.bastore, 1) := by decide +kernel
theorem dX11_chance_135 : decode cX11_chance 135 = .ok (.iinc 8 1, 3) := by decide +kernel
theorem dX11_chance_138 : decode cX11_chance 138 = .ok (.goto (-68), 3) := by decide +kernel
theorem dX11_chance_141 : decode cX11_chance 141 = .ok (.aload_n 0, 1) := by decide +kernel
theorem dX11_chance_142 : decode cX11_chance 142 = .ok (.getfield 371, 3) := by decide +kernel
theorem dX11_chance_145 : decode cX11_chance 145 = .ok (.aload_n 0, 1) := by decide +kernel
theorem dX11_chance_146 : decode cX11_chance 146 = .ok (.getfield 10, 3) := by decide +kernel
theorem dX11_chance_149 : decode cX11_chance 149 = .ok (.aload 7, 2) := by decide +kernel
theorem dX11_chance_151 : decode cX11_chance 151 = .ok (.iload_n 3, 1) := by decide +kernel
theorem dX11_chance_152 : decode cX11_chance 152 = .ok (.iload 4, 2) := by decide +kernel
theorem dX11_chance_154 : decode cX11_chance 154 = .ok (.invokevirtual 388, 3) := by decide +kernel
theorem dX11_chance_157 : decode cX11_chance 157 = .ok (.iload 6, 2) := by decide +kernel
theorem dX11_chance_159 : decode cX11_chance 159 = .ok (.ifCond .ne 13, 3) := by decide +kernel
theorem dX11_chance_162 : decode cX11_chance 162 = .ok (.aload_n 0, 1) := by decide +kernel
theorem dX11_chance_163 : decode cX11_chance 163 = .ok (.getfield 371, 3) := by decide +kernel
theorem dX11_chance_166 : decode cX11_chance 166 = .ok (.getfield 392, 3) := by decide +kernel
theorem dX11_chance_169 : decode cX11_chance 169 = .ok (.goto 10, 3) := by decide +kernel
theorem dX11_chance_172 : decode cX11_chance 172 = .ok (.aload_n 0, 1) := by decide +kernel
theorem dX11_chance_173 : decode cX11_chance 173 = .ok (.getfield 371, 3) := by decide +kernel
theorem dX11_chance_176 : decode cX11_chance 176 = .ok (.getfield 395, 3) := by decide +kernel
theorem dX11_chance_179 : decode cX11_chance 179 = .ok (.ireturn, 1) := by decide +kernel
theorem dX11_waitFor_0 : decode cX11_waitFor 0 = .ok (.aload_n 0, 1) := by decide +kernel
theorem dX11_waitFor_1 : decode cX11_waitFor 1 = .ok (.iload_n 1, 1) := by decide +kernel
theorem dX11_waitFor_2 : decode cX11_waitFor 2 = .ok (.iload_n 2, 1) := by decide +kernel
theorem dX11_waitFor_3 : decode cX11_waitFor 3 = .ok (.iload_n 3, 1) := by decide +kernel
theorem dX11_waitFor_4 : decode cX11_waitFor 4 = .ok (.invokevirtual 186, 3) := by decide +kernel
theorem dX11_waitFor_7 : decode cX11_waitFor 7 = .ok (.ifCond .eq 13, 3) := by decide +kernel
theorem dX11_waitFor_10 : decode cX11_waitFor 10 = .ok (.iload 4, 2) := by decide +kernel
theorem dX11_waitFor_12 : decode cX11_waitFor 12 = .ok (.iconst 0, 1) := by decide +kernel
theorem dX11_waitFor_13 : decode cX11_waitFor 13 = .ok (.iconst 1, 1) := by decide +kernel
theorem dX11_waitFor_14 : decode cX11_waitFor 14 = .ok (.invokestatic 51, 3) := by decide +kernel
theorem dX11_waitFor_17 : decode cX11_waitFor 17 = .ok (.ifCond .ne 5, 3) := by decide +kernel
theorem dX11_waitFor_20 : decode cX11_waitFor 20 = .ok (.iconst (-1), 1) := by decide +kernel
theorem dX11_waitFor_21 : decode cX11_waitFor 21 = .ok (.ireturn, 1) := by decide +kernel
theorem dX11_waitFor_22 : decode cX11_waitFor 22 = .ok (.iconst (-1), 1) := by decide +kernel
theorem dX11_waitFor_23 : decode cX11_waitFor 23 = .ok (.istore 5, 2) := by decide +kernel
theorem dX11_waitFor_25 : decode cX11_waitFor 25 = .ok (.iconst (-1), 1) := by decide +kernel
theorem dX11_waitFor_26 : decode cX11_waitFor 26 = .ok (.istore 6, 2) := by decide +kernel
theorem dX11_waitFor_28 : decode cX11_waitFor 28 = .ok (.iconst 0, 1) := by decide +kernel
theorem dX11_waitFor_29 : decode cX11_waitFor 29 = .ok (.istore 7, 2) := by decide +kernel
theorem dX11_waitFor_31 : decode cX11_waitFor 31 = .ok (.iload 7, 2) := by decide +kernel
theorem dX11_waitFor_33 : decode cX11_waitFor 33 = .ok (.aload_n 0, 1) := by decide +kernel
theorem dX11_waitFor_34 : decode cX11_waitFor 34 = .ok (.getfield 10, 3) := by decide +kernel
theorem dX11_waitFor_37 : decode cX11_waitFor 37 = .ok (.getfield 176, 3) := by decide +kernel
theorem dX11_waitFor_40 : decode cX11_waitFor 40 = .ok (.if_icmp .ge 63, 3) := by decide +kernel
theorem dX11_waitFor_43 : decode cX11_waitFor 43 = .ok (.iload 7, 2) := by decide +kernel
theorem dX11_waitFor_45 : decode cX11_waitFor 45 = .ok (.aload_n 0, 1) := by decide +kernel
theorem dX11_waitFor_46 : decode cX11_waitFor 46 = .ok (.getfield 10, 3) := by decide +kernel
theorem dX11_waitFor_49 : decode cX11_waitFor 49 = .ok (.getfield 179, 3) := by decide +kernel
theorem dX11_waitFor_52 : decode cX11_waitFor 52 = .ok (.arraylength, 1) := by decide +kernel
theorem dX11_waitFor_53 : decode cX11_waitFor 53 = .ok (.if_icmp .ge 50, 3) := by decide +kernel
theorem dX11_waitFor_56 : decode cX11_waitFor 56 = .ok (.aload_n 0, 1) := by decide +kernel
theorem dX11_waitFor_57 : decode cX11_waitFor 57 = .ok (.getfield 26, 3) := by decide +kernel
theorem dX11_waitFor_60 : decode cX11_waitFor 60 = .ok (.aload_n 0, 1) := by decide +kernel
theorem dX11_waitFor_61 : decode cX11_waitFor 61 = .ok (.getfield 10, 3) := by decide +kernel
theorem dX11_waitFor_64 : decode cX11_waitFor 64 = .ok (.iload_n 1, 1) := by decide +kernel
theorem dX11_waitFor_65 : decode cX11_waitFor 65 = .ok (.iload_n 2, 1) := by decide +kernel
theorem dX11_waitFor_66 : decode cX11_waitFor 66 = .ok (.iload_n 3, 1) := by decide +kernel
theorem dX11_waitFor_67 : decode cX11_waitFor 67 = .ok (.aload_n 0, 1) := by decide +kernel
theorem dX11_waitFor_68 : decode cX11_waitFor 68 = .ok (.getfield 10, 3) := by decide +kernel
theorem dX11_waitFor_71 : decode cX11_waitFor 71 = .ok (.getfield 179, 3) := by decide +kernel
theorem dX11_waitFor_74 : decode cX11_waitFor 74 = .ok (.iload 7, 2) := by decide +kernel
theorem dX11_waitFor_76 : decode cX11_waitFor 76 = .ok (.iaload, 1) := by decide +kernel
theorem dX11_waitFor_77 : decode cX11_waitFor 77 = .ok (.invokevirtual 381, 3) := by decide +kernel
theorem dX11_waitFor_80 : decode cX11_waitFor 80 = .ok (.istore 8, 2) := by decide +kernel
theorem dX11_waitFor_82 : decode cX11_waitFor 82 = .ok (.iload 8, 2) := by decide +kernel
theorem dX11_waitFor_84 : decode cX11_waitFor 84 = .ok (.iload 6, 2) := by decide +kernel
theorem dX11_waitFor_86 : decode cX11_waitFor 86 = .ok (.if_icmp .le 11, 3) := by decide +kernel
theorem dX11_waitFor_89 : decode cX11_waitFor 89 = .ok (.iload 8, 2) := by decide +kernel
theorem dX11_waitFor_91 : decode cX11_waitFor 91 = .ok (.istore 6, 2) := by decide +kernel
theorem dX11_waitFor_93 : decode cX11_waitFor 93 = .ok (.iload 7, 2) := by decide +kernel
theorem dX11_waitFor_95 : decode cX11_waitFor 95 = .ok (.istore 5, 2) := by decide +kernel
theorem dX11_waitFor_97 : decode cX11_waitFor 97 = .ok (.iinc 7 1, 3) := by decide +kernel
theorem dX11_waitFor_100 : decode cX11_waitFor 100 = .ok (.goto (-69), 3) := by decide +kernel
theorem dX11_waitFor_103 : decode cX11_waitFor 103 = .ok (.iload 4, 2) := by decide +kernel
theorem dX11_waitFor_105 : decode cX11_waitFor 105 = .ok (.ifCond .ne 8, 3) := by decide +kernel
theorem dX11_waitFor_108 : decode cX11_waitFor 108 = .ok (.iload 5, 2) := by decide +kernel
theorem dX11_waitFor_110 : decode cX11_waitFor 110 = .ok (.goto 5, 3) := by decide +kernel
theorem dX11_waitFor_113 : decode cX11_waitFor 113 = .ok (.iload 6, 2) := by decide +kernel
theorem dX11_waitFor_115 : decode cX11_waitFor 115 = .ok (.ireturn, 1) := by decide +kernel
theorem dX11_leastForce_0 : decode cX11_leastForce 0 = .ok (.aload_n 0, 1) := by decide +kernel
theorem dX11_leastForce_1 : decode cX11_leastForce 1 = .ok (.getfield 10, 3) := by decide +kernel
theorem dX11_leastForce_4 : decode cX11_leastForce 4 = .ok (.iload_n 1, 1) := by decide +kernel
theorem dX11_leastForce_5 : decode cX11_leastForce 5 = .ok (.invokevirtual 193, 3) := by decide +kernel
theorem dX11_leastForce_8 : decode cX11_leastForce 8 = .ok (.ifCond .eq 20, 3) := by decide +kernel
theorem dX11_leastForce_11 : decode cX11_leastForce 11 = .ok (.iload_n 2, 1) := by decide +kernel
theorem dX11_leastForce_12 : decode cX11_leastForce 12 = .ok (.invokestatic 329, 3) := by decide +kernel
theorem dX11_leastForce_15 : decode cX11_leastForce 15 = .ok (.ifCond .eq 13, 3) := by decide +kernel
theorem dX11_leastForce_18 : decode cX11_leastForce 18 = .ok (.iload 4, 2) := by decide +kernel
theorem dX11_leastForce_20 : decode cX11_leastForce 20 = .ok (.iconst 0, 1) := by decide +kernel
theorem dX11_leastForce_21 : decode cX11_leastForce 21 = .ok (.iconst 1, 1) := by decide +kernel
theorem dX11_leastForce_22 : decode cX11_leastForce 22 = .ok (.invokestatic 51, 3) := by decide +kernel
theorem dX11_leastForce_25 : decode cX11_leastForce 25 = .ok (.ifCond .ne 5, 3) := by decide +kernel
theorem dX11_leastForce_28 : decode cX11_leastForce 28 = .ok (.iconst (-1), 1) := by decide +kernel
theorem dX11_leastForce_29 : decode cX11_leastForce 29 = .ok (.ireturn, 1) := by decide +kernel
theorem dX11_leastForce_30 : decode cX11_leastForce 30 = .ok (.iconst 0, 1) := by decide +kernel
theorem dX11_leastForce_31 : decode cX11_leastForce 31 = .ok (.istore 5, 2) := by decide +kernel
theorem dX11_leastForce_33 : decode cX11_leastForce 33 = .ok (.iload 5, 2) := by decide +kernel
theorem dX11_leastForce_35 : decode cX11_leastForce 35 = .ok (.bipush 99, 2) := by decide +kernel
theorem dX11_leastForce_37 : decode cX11_leastForce 37 = .ok (.if_icmp .gt 46, 3) := by decide +kernel
theorem dX11_leastForce_40 : decode cX11_leastForce 40 = .ok (.aload_n 0, 1) := by decide +kernel
theorem dX11_leastForce_41 : decode cX11_leastForce 41 = .ok (.getfield 26, 3) := by decide +kernel
theorem dX11_leastForce_44 : decode cX11_leastForce 44 = .ok (.aload_n 0, 1) := by decide +kernel
theorem dX11_leastForce_45 : decode cX11_leastForce 45 = .ok (.getfield 10, 3) := by decide +kernel
theorem dX11_leastForce_48 : decode cX11_leastForce 48 = .ok (.iload 5, 2) := by decide +kernel
theorem dX11_leastForce_50 : decode cX11_leastForce 50 = .ok (.iload_n 1, 1) := by decide +kernel
theorem dX11_leastForce_51 : decode cX11_leastForce 51 = .ok (.iload_n 2, 1) := by decide +kernel
theorem dX11_leastForce_52 : decode cX11_leastForce 52 = .ok (.iload_n 3, 1) := by decide +kernel
theorem dX11_leastForce_53 : decode cX11_leastForce 53 = .ok (.invokevirtual 398, 3) := by decide +kernel
theorem dX11_leastForce_56 : decode cX11_leastForce 56 = .ok (.istore 6, 2) := by decide +kernel
theorem dX11_leastForce_58 : decode cX11_leastForce 58 = .ok (.iload 6, 2) := by decide +kernel
theorem dX11_leastForce_60 : decode cX11_leastForce 60 = .ok (.iconst (-1), 1) := by decide +kernel
theorem dX11_leastForce_61 : decode cX11_leastForce 61 = .ok (.if_icmp .eq 16, 3) := by decide +kernel
theorem dX11_leastForce_64 : decode cX11_leastForce 64 = .ok (.iload 4, 2) := by decide +kernel
theorem dX11_leastForce_66 : decode cX11_leastForce 66 = .ok (.ifCond .ne 8, 3) := by decide +kernel
theorem dX11_leastForce_69 : decode cX11_leastForce 69 = .ok (.iload 5, 2) := by decide +kernel
theorem dX11_leastForce_71 : decode cX11_leastForce 71 = .ok (.goto 5, 3) := by decide +kernel
theorem dX11_leastForce_74 : decode cX11_leastForce 74 = .ok (.iload 6, 2) := by decide +kernel
theorem dX11_leastForce_76 : decode cX11_leastForce 76 = .ok (.ireturn, 1) := by decide +kernel
theorem dX11_leastForce_77 : decode cX11_leastForce 77 = .ok (.iinc 5 1, 3) := by decide +kernel
theorem dX11_leastForce_80 : decode cX11_leastForce 80 = .ok (.goto (-47), 3) := by decide +kernel
theorem dX11_leastForce_83 : decode cX11_leastForce 83 = .ok (.iconst (-1), 1) := by decide +kernel
theorem dX11_leastForce_84 : decode cX11_leastForce 84 = .ok (.ireturn, 1) := by decide +kernel
theorem dX11_better_0 : decode cX11_better 0 = .ok (.aload_n 0, 1) := by decide +kernel
theorem dX11_better_1 : decode cX11_better 1 = .ok (.iload_n 1, 1) := by decide +kernel
theorem dX11_better_2 : decode cX11_better 2 = .ok (.iload_n 2, 1) := by decide +kernel
theorem dX11_better_3 : decode cX11_better 3 = .ok (.iload_n 3, 1) := by decide +kernel
theorem dX11_better_4 : decode cX11_better 4 = .ok (.invokevirtual 186, 3) := by decide +kernel
theorem dX11_better_7 : decode cX11_better 7 = .ok (.ifCond .eq 15, 3) := by decide +kernel
theorem dX11_better_10 : decode cX11_better 10 = .ok (.aload_n 0, 1) := by decide +kernel
