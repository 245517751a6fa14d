theorem dX11_better_11 : decode cX11_better 11 = .ok (.getfield 10, 3) := by decide +kernel
theorem dX11_better_14 : decode cX11_better 14 = .ok (.iload 4, 2) := by decide +kernel
theorem dX11_better_16 : decode cX11_better 16 = .ok (.invokevirtual 193, 3) := by decide +kernel
theorem dX11_better_19 : decode cX11_better 19 = .ok (.ifCond .ne 7, 3) := by decide +kernel
theorem dX11_better_22 : decode cX11_better 22 = .ok (.ldc2_w 358, 3) := by decide +kernel
theorem dX11_better_25 : decode cX11_better 25 = .ok (.lreturn, 1) := by decide +kernel
theorem dX11_better_26 : decode cX11_better 26 = .ok (.lconst 0, 1) := by decide +kernel
theorem dX11_better_27 : decode cX11_better 27 = .ok (.lstore 5, 2) := by decide +kernel
theorem dX11_better_29 : decode cX11_better 29 = .ok (.bipush (-20), 2) := by decide +kernel
theorem dX11_better_31 : decode cX11_better 31 = .ok (.istore 7, 2) := by decide +kernel
theorem dX11_better_33 : decode cX11_better 33 = .ok (.iload 7, 2) := by decide +kernel
theorem dX11_better_35 : decode cX11_better 35 = .ok (.bipush 20, 2) := by decide +kernel
theorem dX11_better_37 : decode cX11_better 37 = .ok (.if_icmp .gt 67, 3) := by decide +kernel
theorem dX11_better_40 : decode cX11_better 40 = .ok (.aload_n 0, 1) := by decide +kernel
theorem dX11_better_41 : decode cX11_better 41 = .ok (.getfield 26, 3) := by decide +kernel
theorem dX11_better_44 : decode cX11_better 44 = .ok (.aload_n 0, 1) := by decide +kernel
theorem dX11_better_45 : decode cX11_better 45 = .ok (.getfield 10, 3) := by decide +kernel
theorem dX11_better_48 : decode cX11_better 48 = .ok (.iload_n 1, 1) := by decide +kernel
theorem dX11_better_49 : decode cX11_better 49 = .ok (.iload_n 2, 1) := by decide +kernel
theorem dX11_better_50 : decode cX11_better 50 = .ok (.iload_n 3, 1) := by decide +kernel
theorem dX11_better_51 : decode cX11_better 51 = .ok (.iload 7, 2) := by decide +kernel
theorem dX11_better_53 : decode cX11_better 53 = .ok (.invokevirtual 381, 3) := by decide +kernel
theorem dX11_better_56 : decode cX11_better 56 = .ok (.istore 8, 2) := by decide +kernel
theorem dX11_better_58 : decode cX11_better 58 = .ok (.iload 8, 2) := by decide +kernel
theorem dX11_better_60 : decode cX11_better 60 = .ok (.iconst (-1), 1) := by decide +kernel
theorem dX11_better_61 : decode cX11_better 61 = .ok (.if_icmp .eq 37, 3) := by decide +kernel
theorem dX11_better_64 : decode cX11_better 64 = .ok (.iload 8, 2) := by decide +kernel
theorem dX11_better_66 : decode cX11_better 66 = .ok (.aload_n 0, 1) := by decide +kernel
theorem dX11_better_67 : decode cX11_better 67 = .ok (.getfield 26, 3) := by decide +kernel
theorem dX11_better_70 : decode cX11_better 70 = .ok (.aload_n 0, 1) := by decide +kernel
theorem dX11_better_71 : decode cX11_better 71 = .ok (.getfield 10, 3) := by decide +kernel
theorem dX11_better_74 : decode cX11_better 74 = .ok (.iload_n 1, 1) := by decide +kernel
theorem dX11_better_75 : decode cX11_better 75 = .ok (.iload_n 2, 1) := by decide +kernel
theorem dX11_better_76 : decode cX11_better 76 = .ok (.iload 4, 2) := by decide +kernel
theorem dX11_better_78 : decode cX11_better 78 = .ok (.iload 7, 2) := by decide +kernel
theorem dX11_better_80 : decode cX11_better 80 = .ok (.invokevirtual 381, 3) := by decide +kernel
theorem dX11_better_83 : decode cX11_better 83 = .ok (.if_icmp .le 15, 3) := by decide +kernel
theorem dX11_better_86 : decode cX11_better 86 = .ok (.lload 5, 2) := by decide +kernel
theorem dX11_better_88 : decode cX11_better 88 = .ok (.lconst 1, 1) := by decide +kernel
theorem dX11_better_89 : decode cX11_better 89 = .ok (.iload 7, 2) := by decide +kernel
theorem dX11_better_91 : decode cX11_better 91 = .ok (.bipush 20, 2) := by decide +kernel
theorem dX11_better_93 : decode cX11_better 93 = .ok (.iadd, 1) := by decide +kernel
theorem dX11_better_94 : decode cX11_better 94 = .ok (.lshl, 1) := by decide +kernel
theorem dX11_better_95 : decode cX11_better 95 = .ok (.lor, 1) := by decide +kernel
theorem dX11_better_96 : decode cX11_better 96 = .ok (.lstore 5, 2) := by decide +kernel
theorem dX11_better_98 : decode cX11_better 98 = .ok (.iinc 7 1, 3) := by decide +kernel
theorem dX11_better_101 : decode cX11_better 101 = .ok (.goto (-68), 3) := by decide +kernel
theorem dX11_better_104 : decode cX11_better 104 = .ok (.lload 5, 2) := by decide +kernel
theorem dX11_better_106 : decode cX11_better 106 = .ok (.lreturn, 1) := by decide +kernel
theorem dX11_span_0 : decode cX11_span 0 = .ok (.aload_n 0, 1) := by decide +kernel
theorem dX11_span_1 : decode cX11_span 1 = .ok (.getfield 10, 3) := by decide +kernel
theorem dX11_span_4 : decode cX11_span 4 = .ok (.iload_n 1, 1) := by decide +kernel
theorem dX11_span_5 : decode cX11_span 5 = .ok (.invokevirtual 310, 3) := by decide +kernel
theorem dX11_span_8 : decode cX11_span 8 = .ok (.ifCond .eq 12, 3) := by decide +kernel
theorem dX11_span_11 : decode cX11_span 11 = .ok (.iload_n 2, 1) := by decide +kernel
theorem dX11_span_12 : decode cX11_span 12 = .ok (.iconst 0, 1) := by decide +kernel
theorem dX11_span_13 : decode cX11_span 13 = .ok (.iconst 1, 1) := by decide +kernel
theorem dX11_span_14 : decode cX11_span 14 = .ok (.invokestatic 51, 3) := by decide +kernel
theorem dX11_span_17 : decode cX11_span 17 = .ok (.ifCond .ne 5, 3) := by decide +kernel
theorem dX11_span_20 : decode cX11_span 20 = .ok (.iconst (-1), 1) := by decide +kernel
theorem dX11_span_21 : decode cX11_span 21 = .ok (.ireturn, 1) := by decide +kernel
theorem dX11_span_22 : decode cX11_span 22 = .ok (.aload_n 0, 1) := by decide +kernel
theorem dX11_span_23 : decode cX11_span 23 = .ok (.getfield 10, 3) := by decide +kernel
theorem dX11_span_26 : decode cX11_span 26 = .ok (.getfield 222, 3) := by decide +kernel
theorem dX11_span_29 : decode cX11_span 29 = .ok (.iconst 3, 1) := by decide +kernel
theorem dX11_span_30 : decode cX11_span 30 = .ok (.iaload, 1) := by decide +kernel
theorem dX11_span_31 : decode cX11_span 31 = .ok (.istore_n 3, 1) := by decide +kernel
theorem dX11_span_32 : decode cX11_span 32 = .ok (.iconst (-1), 1) := by decide +kernel
theorem dX11_span_33 : decode cX11_span 33 = .ok (.istore 4, 2) := by decide +kernel
theorem dX11_span_35 : decode cX11_span 35 = .ok (.iload_n 3, 1) := by decide +kernel
theorem dX11_span_36 : decode cX11_span 36 = .ok (.ineg, 1) := by decide +kernel
theorem dX11_span_37 : decode cX11_span 37 = .ok (.istore 5, 2) := by decide +kernel
theorem dX11_span_39 : decode cX11_span 39 = .ok (.iload 5, 2) := by decide +kernel
theorem dX11_span_41 : decode cX11_span 41 = .ok (.iload_n 3, 1) := by decide +kernel
theorem dX11_span_42 : decode cX11_span 42 = .ok (.if_icmp .gt 94, 3) := by decide +kernel
theorem dX11_span_45 : decode cX11_span 45 = .ok (.aload_n 0, 1) := by decide +kernel
theorem dX11_span_46 : decode cX11_span 46 = .ok (.getfield 10, 3) := by decide +kernel
theorem dX11_span_49 : decode cX11_span 49 = .ok (.iload_n 1, 1) := by decide +kernel
theorem dX11_span_50 : decode cX11_span 50 = .ok (.iconst 5, 1) := by decide +kernel
theorem dX11_span_51 : decode cX11_span 51 = .ok (.invokevirtual 313, 3) := by decide +kernel
theorem dX11_span_54 : decode cX11_span 54 = .ok (.iload 5, 2) := by decide +kernel
theorem dX11_span_56 : decode cX11_span 56 = .ok (.iadd, 1) := by decide +kernel
theorem dX11_span_57 : decode cX11_span 57 = .ok (.iconst 0, 1) := by decide +kernel
theorem dX11_span_58 : decode cX11_span 58 = .ok (.bipush 90, 2) := by decide +kernel
theorem dX11_span_60 : decode cX11_span 60 = .ok (.invokestatic 228, 3) := by decide +kernel
theorem dX11_span_63 : decode cX11_span 63 = .ok (.istore 6, 2) := by decide +kernel
theorem dX11_span_65 : decode cX11_span 65 = .ok (.aload_n 0, 1) := by decide +kernel
theorem dX11_span_66 : decode cX11_span 66 = .ok (.getfield 26, 3) := by decide +kernel
theorem dX11_span_69 : decode cX11_span 69 = .ok (.aload_n 0, 1) := by decide +kernel
theorem dX11_span_70 : decode cX11_span 70 = .ok (.getfield 10, 3) := by decide +kernel
theorem dX11_span_73 : decode cX11_span 73 = .ok (.aload_n 0, 1) := by decide +kernel
theorem dX11_span_74 : decode cX11_span 74 = .ok (.getfield 10, 3) := by decide +kernel
theorem dX11_span_77 : decode cX11_span 77 = .ok (.iload_n 1, 1) := by decide +kernel
theorem dX11_span_78 : decode cX11_span 78 = .ok (.iconst 4, 1) := by decide +kernel
theorem dX11_span_79 : decode cX11_span 79 = .ok (.invokevirtual 313, 3) := by decide +kernel
theorem dX11_span_82 : decode cX11_span 82 = .ok (.iload 6, 2) := by decide +kernel
theorem dX11_span_84 : decode cX11_span 84 = .ok (.aload_n 0, 1) := by decide +kernel
theorem dX11_span_85 : decode cX11_span 85 = .ok (.getfield 10, 3) := by decide +kernel
theorem dX11_span_88 : decode cX11_span 88 = .ok (.iload_n 1, 1) := by decide +kernel
theorem dX11_span_89 : decode cX11_span 89 = .ok (.iconst 3, 1) := by decide +kernel
theorem dX11_span_90 : decode cX11_span 90 = .ok (.invokevirtual 313, 3) := by decide +kernel
theorem dX11_span_93 : decode cX11_span 93 = .ok (.iconst 0, 1) := by decide +kernel
theorem dX11_span_94 : decode cX11_span 94 = .ok (.invokevirtual 360, 3) := by decide +kernel
theorem dX11_span_97 : decode cX11_span 97 = .ok (.istore 7, 2) := by decide +kernel
theorem dX11_span_99 : decode cX11_span 99 = .ok (.iload 4, 2) := by decide +kernel
theorem dX11_span_101 : decode cX11_span 101 = .ok (.iconst (-1), 1) := by decide +kernel
theorem dX11_span_102 : decode cX11_span 102 = .ok (.if_icmp .eq 24, 3) := by decide +kernel
theorem dX11_span_105 : decode cX11_span 105 = .ok (.iload_n 2, 1) := by decide +kernel
theorem dX11_span_106 : decode cX11_span 106 = .ok (.ifCond .ne 13, 3) := by decide +kernel
theorem dX11_span_109 : decode cX11_span 109 = .ok (.iload 7, 2) := by decide +kernel
theorem dX11_span_111 : decode cX11_span 111 = .ok (.iload 4, 2) := by decide +kernel
theorem dX11_span_113 : decode cX11_span 113 = .ok (.if_icmp .ge 17, 3) := by decide +kernel
theorem dX11_span_116 : decode cX11_span 116 = .ok (.goto 10, 3) := by decide +kernel
theorem dX11_span_119 : decode cX11_span 119 = .ok (.iload 7, 2) := by decide +kernel
theorem dX11_span_121 : decode cX11_span 121 = .ok (.iload 4, 2) := by decide +kernel
theorem dX11_span_123 : decode cX11_span 123 = .ok (.if_icmp .le 7, 3) := by decide +kernel
theorem dX11_span_126 : decode cX11_span 126 = .ok (.iload 7, 2) := by decide +kernel
theorem dX11_span_128 : decode cX11_span 128 = .ok (.istore 4, 2) := by decide +kernel
theorem dX11_span_130 : decode cX11_span 130 = .ok (.iinc 5 1, 3) := by decide +kernel
theorem dX11_span_133 : decode cX11_span 133 = .ok (.goto (-94), 3) := by decide +kernel
theorem dX11_span_136 : decode cX11_span 136 = .ok (.iload 4, 2) := by decide +kernel
theorem dX11_span_138 : decode cX11_span 138 = .ok (.ireturn, 1) := by decide +kernel
theorem dX11_train_0 : decode cX11_train 0 = .ok (.aload_n 0, 1) := by decide +kernel
theorem dX11_train_1 : decode cX11_train 1 = .ok (.getfield 10, 3) := by decide +kernel
theorem dX11_train_4 : decode cX11_train 4 = .ok (.iload_n 1, 1) := by decide +kernel
theorem dX11_train_5 : decode cX11_train 5 = .ok (.invokevirtual 80, 3) := by decide +kernel
theorem dX11_train_8 : decode cX11_train 8 = .ok (.astore 5, 2) := by decide +kernel
theorem dX11_train_10 : decode cX11_train 10 = .ok (.aload 5, 2) := by decide +kernel
theorem dX11_train_12 : decode cX11_train 12 = .ok (.ifnull 34, 3) := by decide +kernel
theorem dX11_train_15 : decode cX11_train 15 = .ok (.iload_n 2, 1) := by decide +kernel
theorem dX11_train_16 : decode cX11_train 16 = .ok (.iconst 1, 1) := by decide +kernel
theorem dX11_train_17 : decode cX11_train 17 = .ok (.bipush 12, 2) := by decide +kernel
theorem dX11_train_19 : decode cX11_train 19 = .ok (.invokestatic 51, 3) := by decide +kernel
theorem dX11_train_22 : decode cX11_train 22 = .ok (.ifCond .eq 24, 3) := by decide +kernel
theorem dX11_train_25 : decode cX11_train 25 = .ok (.iload_n 3, 1) := by decide +kernel
theorem dX11_train_26 : decode cX11_train 26 = .ok (.iconst 0, 1) := by decide +kernel
theorem dX11_train_27 : decode cX11_train 27 = .ok (.sipush 1000, 3) := by decide +kernel
theorem dX11_train_30 : decode cX11_train 30 = .ok (.invokestatic 51, 3) := by decide +kernel
theorem dX11_train_33 : decode cX11_train 33 = .ok (.ifCond .eq 13, 3) := by decide +kernel
theorem dX11_train_36 : decode cX11_train 36 = .ok (.iload 4, 2) := by decide +kernel
theorem dX11_train_38 : decode cX11_train 38 = .ok (.iconst 0, 1) := by decide +kernel
theorem dX11_train_39 : decode cX11_train 39 = .ok (.iconst 1, 1) := by decide +kernel
theorem dX11_train_40 : decode cX11_train 40 = .ok (.invokestatic 51, 3) := by decide +kernel
theorem dX11_train_43 : decode cX11_train 43 = .ok (.ifCond .ne 5, 3) := by decide +kernel
theorem dX11_train_46 : decode cX11_train 46 = .ok (.iconst (-1), 1) := by decide +kernel
theorem dX11_train_47 : decode cX11_train 47 = .ok (.ireturn, 1) := by decide +kernel
theorem dX11_train_48 : decode cX11_train 48 = .ok (.aload_n 0, 1) := by decide +kernel
theorem dX11_train_49 : decode cX11_train 49 = .ok (.getfield 401, 3) := by decide +kernel
theorem dX11_train_52 : decode cX11_train 52 = .ok (.ifnonnull 14, 3) := by decide +kernel
theorem dX11_train_55 : decode cX11_train 55 = .ok (.aload_n 0, 1) := by decide +kernel
theorem dX11_train_56 : decode cX11_train 56 = .ok (.new 404, 3) := by decide +kernel
theorem dX11_train_59 : decode cX11_train 59 = .ok (.dup, 1) := by decide +kernel
theorem dX11_train_60 : decode cX11_train 60 = .ok (.invokespecial 406, 3) := by decide +kernel
theorem dX11_train_63 : decode cX11_train 63 = .ok (.putfield 401, 3) := by decide +kernel
theorem dX11_train_66 : decode cX11_train 66 = .ok (.aload_n 0, 1) := by decide +kernel
theorem dX11_train_67 : decode cX11_train 67 = .ok (.getfield 401, 3) := by decide +kernel
theorem dX11_train_70 : decode cX11_train 70 = .ok (.aload 5, 2) := by decide +kernel
theorem dX11_train_72 : decode cX11_train 72 = .ok (.getfield 84, 3) := by decide +kernel
theorem dX11_train_75 : decode cX11_train 75 = .ok (.aload 5, 2) := by decide +kernel
theorem dX11_train_77 : decode cX11_train 77 = .ok (.getfield 89, 3) := by decide +kernel
theorem dX11_train_80 : decode cX11_train 80 = .ok (.invokevirtual 407, 3) := by decide +kernel
theorem dX11_train_83 : decode cX11_train 83 = .ok (.iconst 0, 1) := by decide +kernel
theorem dX11_train_84 : decode cX11_train 84 = .ok (.istore 6, 2) := by decide +kernel
theorem dX11_train_86 : decode cX11_train 86 = .ok (.iload 6, 2) := by decide +kernel
theorem dX11_train_88 : decode cX11_train 88 = .ok (.iload_n 2, 1) := by decide +kernel
theorem dX11_train_89 : decode cX11_train 89 = .ok (.if_icmp .ge 26, 3) := by decide +kernel
theorem dX11_train_92 : decode cX11_train 92 = .ok (.aload_n 0, 1) := by decide +kernel
theorem dX11_train_93 : decode cX11_train 93 = .ok (.getfield 401, 3) := by decide +kernel
theorem dX11_train_96 : decode cX11_train 96 = .ok (.aload_n 0, 1) := by decide +kernel
theorem dX11_train_97 : decode cX11_train 97 = .ok (.getfield 10, 3) := by decide +kernel
theorem dX11_train_100 : decode cX11_train 100 = .ok (.getfield 136, 3) := by decide +kernel
theorem dX11_train_103 : decode cX11_train 103 = .ok (.iload 6, 2) := by decide +kernel
theorem dX11_train_105 : decode cX11_train 105 = .ok (.iload_n 3, 1) := by decide +kernel
theorem dX11_train_106 : decode cX11_train 106 = .ok (.invokevirtual 409, 3) := by decide +kernel
theorem dX11_train_109 : decode cX11_train 109 = .ok (.iinc 6 1, 3) := by decide +kernel
theorem dX11_train_112 : decode cX11_train 112 = .ok (.goto (-26), 3) := by decide +kernel
theorem dX11_train_115 : decode cX11_train 115 = .ok (.aload_n 0, 1) := by decide +kernel
theorem dX11_train_116 : decode cX11_train 116 = .ok (.getfield 401, 3) := by decide +kernel
theorem dX11_train_119 : decode cX11_train 119 = .ok (.invokevirtual 413, 3) := by decide +kernel
theorem dX11_train_122 : decode cX11_train 122 = .ok (.iload 4, 2) := by decide +kernel
theorem dX11_train_124 : decode cX11_train 124 = .ok (.ifCond .ne 13, 3) := by decide +kernel
theorem dX11_train_127 : decode cX11_train 127 = .ok (.aload_n 0, 1) := by decide +kernel
theorem dX11_train_128 : decode cX11_train 128 = .ok (.getfield 401, 3) := by decide +kernel
theorem dX11_train_131 : decode cX11_train 131 = .ok (.getfield 416, 3) := by decide +kernel
theorem dX11_train_134 : decode cX11_train 134 = .ok (.goto 10, 3) := by decide +kernel
theorem dX11_train_137 : decode cX11_train 137 = .ok (.aload_n 0, 1) := by decide +kernel
theorem dX11_train_138 : decode cX11_train 138 = .ok (.getfield 401, 3) := by decide +kernel
theorem dX11_train_141 : decode cX11_train 141 = .ok (.getfield 417, 3) := by decide +kernel
theorem dX11_train_144 : decode cX11_train 144 = .ok (.ireturn, 1) := by decide +kernel
theorem dX11_would_0 : decode cX11_would 0 = .ok (.aload_n 0, 1) := by decide +kernel
theorem dX11_would_1 : decode cX11_would 1 = .ok (.getfield 10, 3) := by decide +kernel
theorem dX11_would_4 : decode cX11_would 4 = .ok (.iload_n 1, 1) := by decide +kernel
theorem dX11_would_5 : decode cX11_would 5 = .ok (.invokevirtual 80, 3) := by decide +kernel
theorem dX11_would_8 : decode cX11_would 8 = .ok (.astore_n 2, 1) := by decide +kernel
theorem dX11_would_9 : decode cX11_would 9 = .ok (.aload_n 2, 1) := by decide +kernel
theorem dX11_would_10 : decode cX11_would 10 = .ok (.ifnonnull 5, 3) := by decide +kernel
theorem dX11_would_13 : decode cX11_would 13 = .ok (.iconst (-1), 1) := by decide +kernel
theorem dX11_would_14 : decode cX11_would 14 = .ok (.ireturn, 1) := by decide +kernel
theorem dX11_would_15 : decode cX11_would 15 = .ok (.aload_n 2, 1) := by decide +kernel
theorem dX11_would_16 : decode cX11_would 16 = .ok (.getfield 89, 3) := by decide +kernel
theorem dX11_would_19 : decode cX11_would 19 = .ok (.istore_n 3, 1) := by decide +kernel
theorem dX11_would_20 : decode cX11_would 20 = .ok (.aload_n 2, 1) := by decide +kernel
theorem dX11_would_21 : decode cX11_would 21 = .ok (.getfield 250, 3) := by decide +kernel
theorem dX11_would_24 : decode cX11_would 24 = .ok (.istore 4, 2) := by decide +kernel
theorem dX11_would_26 : decode cX11_would 26 = .ok (.aload_n 2, 1) := by decide +kernel
theorem dX11_would_27 : decode cX11_would 27 = .ok (.getfield 247, 3) := by decide +kernel
theorem dX11_would_30 : decode cX11_would 30 = .ok (.istore 5, 2) := by decide +kernel
theorem dX11_would_32 : decode cX11_would 32 = .ok (.aload_n 2, 1) := by decide +kernel
theorem dX11_would_33 : decode cX11_would 33 = .ok (.getfield 167, 3) := by decide +kernel
theorem dX11_would_36 : decode cX11_would 36 = .ok (.istore 6, 2) := by decide +kernel
theorem dX11_would_38 : decode cX11_would 38 = .ok (.iload_n 1, 1) := by decide +kernel
theorem dX11_would_39 : decode cX11_would 39 = .ok (.aload_n 0, 1) := by decide +kernel
theorem dX11_would_40 : decode cX11_would 40 = .ok (.getfield 10, 3) := by decide +kernel
theorem dX11_would_43 : decode cX11_would 43 = .ok (.getfield 323, 3) := by decide +kernel
theorem dX11_would_46 : decode cX11_would 46 = .ok (.if_icmp .ge 15, 3) := by decide +kernel
theorem dX11_would_49 : decode cX11_would 49 = .ok (.aload_n 0, 1) := by decide +kernel
theorem dX11_would_50 : decode cX11_would 50 = .ok (.getfield 10, 3) := by decide +kernel
theorem dX11_would_53 : decode cX11_would 53 = .ok (.getfield 205, 3) := by decide +kernel
theorem dX11_would_56 : decode cX11_would 56 = .ok (.iconst 1, 1) := by decide +kernel
theorem dX11_would_57 : decode cX11_would 57 = .ok (.iadd, 1) := by decide +kernel
theorem dX11_would_58 : decode cX11_would 58 = .ok (.goto 10, 3) := by decide +kernel
theorem dX11_would_61 : decode cX11_would 61 = .ok (.aload_n 0, 1) := by decide +kernel
theorem dX11_would_62 : decode cX11_would 62 = .ok (.getfield 10, 3) := by decide +kernel
theorem dX11_would_65 : decode cX11_would 65 = .ok (.getfield 205, 3) := by decide +kernel
theorem dX11_would_68 : decode cX11_would 68 = .ok (.istore 7, 2) := by decide +kernel
theorem dX11_would_70 : decode cX11_would 70 = .ok (.iload 7, 2) := by decide +kernel
theorem dX11_would_72 : decode cX11_would 72 = .ok (.istore 8, 2) := by decide +kernel
theorem dX11_would_74 : decode cX11_would 74 = .ok (.iload 8, 2) := by decide +kernel
theorem dX11_would_76 : decode cX11_would 76 = .ok (.bipush 6, 2) := by decide +kernel
theorem dX11_would_78 : decode cX11_would 78 = .ok (.if_icmp .ge 179, 3) := by decide +kernel
theorem dX11_would_81 : decode cX11_would 81 = .ok (.aload_n 2, 1) := by decide +kernel
theorem dX11_would_82 : decode cX11_would 82 = .ok (.iload 6, 2) := by decide +kernel
theorem dX11_would_84 : decode cX11_would 84 = .ok (.iload 4, 2) := by decide +kernel
theorem dX11_would_86 : decode cX11_would 86 = .ok (.iload_n 3, 1) := by decide +kernel
theorem dX11_would_87 : decode cX11_would 87 = .ok (.invokevirtual 420, 3) := by decide +kernel
theorem dX11_would_90 : decode cX11_would 90 = .ok (.ifCond .eq 148, 3) := by decide +kernel
theorem dX11_would_93 : decode cX11_would 93 = .ok (.aload_n 2, 1) := by decide +kernel
theorem dX11_would_94 : decode cX11_would 94 = .ok (.iload 6, 2) := by decide +kernel
theorem dX11_would_96 : decode cX11_would 96 = .ok (.iconst 0, 1) := by decide +kernel
theorem dX11_would_97 : decode cX11_would 97 = .ok (.invokevirtual 273, 3) := by decide +kernel
theorem dX11_would_100 : decode cX11_would 100 = .ok (.aload_n 2, 1) := by decide +kernel
theorem dX11_would_101 : decode cX11_would 101 = .ok (.iload 6, 2) := by decide +kernel
theorem dX11_would_103 : decode cX11_would 103 = .ok (.iconst 3, 1) := by decide +kernel
theorem dX11_would_104 : decode cX11_would 104 = .ok (.invokevirtual 273, 3) := by decide +kernel
theorem dX11_would_107 : decode cX11_would 107 = .ok (.iadd, 1) := by decide +kernel
theorem dX11_would_108 : decode cX11_would 108 = .ok (.aload_n 2, 1) := by decide +kernel
theorem dX11_would_109 : decode cX11_would 109 = .ok (.getfield 84, 3) := by decide +kernel
theorem dX11_would_112 : decode cX11_would 112 = .ok (.invokestatic 200, 3) := by decide +kernel
theorem dX11_would_115 : decode cX11_would 115 = .ok (.istore 9, 2) := by decide +kernel
theorem dX11_would_117 : decode cX11_would 117 = .ok (.aload_n 2, 1) := by decide +kernel
theorem dX11_would_118 : decode cX11_would 118 = .ok (.iload 6, 2) := by decide +kernel
theorem dX11_would_120 : decode cX11_would 120 = .ok (.iconst 1, 1) := by decide +kernel
theorem dX11_would_121 : decode cX11_would 121 = .ok (.invokevirtual 273, 3) := by decide +kernel
theorem dX11_would_124 : decode cX11_would 124 = .ok (.istore 10, 2) := by decide +kernel
theorem dX11_would_126 : decode cX11_would 126 = .ok (.aload_n 0, 1) := by decide +kernel
theorem dX11_would_127 : decode cX11_would 127 = .ok (.getfield 33, 3) := by decide +kernel
theorem dX11_would_130 : decode cX11_would 130 = .ok (.aload_n 2, 1) := by decide +kernel
theorem dX11_would_131 : decode cX11_would 131 = .ok (.iload 8, 2) := by decide +kernel
theorem dX11_would_133 : decode cX11_would 133 = .ok (.invokevirtual 208, 3) := by decide +kernel
theorem dX11_would_136 : decode cX11_would 136 = .ok (.aload_n 0, 1) := by decide +kernel
theorem dX11_would_137 : decode cX11_would 137 = .ok (.getfield 33, 3) := by decide +kernel
theorem dX11_would_140 : decode cX11_would 140 = .ok (.iload 9, 2) := by decide +kernel
theorem dX11_would_142 : decode cX11_would 142 = .ok (.aload_n 2, 1) := by decide +kernel
theorem dX11_would_143 : decode cX11_would 143 = .ok (.iload 6, 2) := by decide +kernel
theorem dX11_would_145 : decode cX11_would 145 = .ok (.iconst 3, 1) := by decide +kernel
theorem dX11_would_146 : decode cX11_would 146 = .ok (.invokevirtual 273, 3) := by decide +kernel
theorem dX11_would_149 : decode cX11_would 149 = .ok (.iload 10, 2) := by decide +kernel
theorem dX11_would_151 : decode cX11_would 151 = .ok (.invokevirtual 212, 3) := by decide +kernel
theorem dX11_would_154 : decode cX11_would 154 = .ok (.aload_n 0, 1) := by decide +kernel
theorem dX11_would_155 : decode cX11_would 155 = .ok (.getfield 33, 3) := by decide +kernel
theorem dX11_would_158 : decode cX11_would 158 = .ok (.iload_n 3, 1) := by decide +kernel
theorem dX11_would_159 : decode cX11_would 159 = .ok (.iload 5, 2) := by decide +kernel
theorem dX11_would_161 : decode cX11_would 161 = .ok (.invokevirtual 367, 3) := by decide +kernel
theorem dX11_would_164 : decode cX11_would 164 = .ok (.aload_n 0, 1) := by decide +kernel
theorem dX11_would_165 : decode cX11_would 165 = .ok (.getfield 33, 3) := by decide +kernel
theorem dX11_would_168 : decode cX11_would 168 = .ok (.iload 4, 2) := by decide +kernel
theorem dX11_would_170 : decode cX11_would 170 = .ok (.invokevirtual 423, 3) := by decide +kernel
theorem dX11_would_173 : decode cX11_would 173 = .ok (.sipush 1000, 3) := by decide +kernel
theorem dX11_would_176 : decode cX11_would 176 = .ok (.iload_n 3, 1) := by decide +kernel
theorem dX11_would_177 : decode cX11_would 177 = .ok (.aload_n 0, 1) := by decide +kernel
theorem dX11_would_178 : decode cX11_would 178 = .ok (.getfield 33, 3) := by decide +kernel
theorem dX11_would_181 : decode cX11_would 181 = .ok (.aload_n 0, 1) := by decide +kernel
theorem dX11_would_182 : decode cX11_would 182 = .ok (.getfield 10, 3) := by decide +kernel
theorem dX11_would_185 : decode cX11_would 185 = .ok (.getfield 124, 3) := by decide +kernel
theorem dX11_would_188 : decode cX11_would 188 = .ok (.iconst 1, 1) := by decide +kernel
theorem dX11_would_189 : decode cX11_would 189 = .ok (.invokevirtual 216, 3) := by decide +kernel
theorem dX11_would_192 : decode cX11_would 192 = .ok (.iadd, 1) := by decide +kernel
theorem dX11_would_193 : decode cX11_would 193 = .ok (.invokestatic 200, 3) := by decide +kernel
theorem dX11_would_196 : decode cX11_would 196 = .ok (.istore_n 3, 1) := by decide +kernel
theorem dX11_would_197 : decode cX11_would 197 = .ok (.iinc 5 1, 3) := by decide +kernel
theorem dX11_would_200 : decode cX11_would 200 = .ok (.iload 4, 2) := by decide +kernel
theorem dX11_would_202 : decode cX11_would 202 = .ok (.aload_n 0, 1) := by decide +kernel
theorem dX11_would_203 : decode cX11_would 203 = .ok (.getfield 26, 3) := by decide +kernel
theorem dX11_would_206 : decode cX11_would 206 = .ok (.aload_n 0, 1) := by decide +kernel
theorem dX11_would_207 : decode cX11_would 207 = .ok (.getfield 10, 3) := by decide +kernel
theorem dX11_would_210 : decode cX11_would 210 = .ok (.iload 9, 2) := by decide +kernel
theorem dX11_would_212 : decode cX11_would 212 = .ok (.iload 10, 2) := by decide +kernel
theorem dX11_would_214 : decode cX11_would 214 = .ok (.aload_n 2, 1) := by decide +kernel
theorem dX11_would_215 : decode cX11_would 215 = .ok (.iload 6, 2) := by decide +kernel
theorem dX11_would_217 : decode cX11_would 217 = .ok (.iconst 2, 1) := by decide +kernel
theorem dX11_would_218 : decode cX11_would 218 = .ok (.invokevirtual 273, 3) := by decide +kernel
theorem dX11_would_221 : decode cX11_would 221 = .ok (.aload_n 0, 1) := by decide +kernel
theorem dX11_would_222 : decode cX11_would 222 = .ok (.getfield 10, 3) := by decide +kernel
theorem dX11_would_225 : decode cX11_would 225 = .ok (.getfield 222, 3) := by decide +kernel
theorem dX11_would_228 : decode cX11_would 228 = .ok (.iconst 0, 1) := by decide +kernel
theorem dX11_would_229 : decode cX11_would 229 = .ok (.iaload, 1) := by decide +kernel
theorem dX11_would_230 : decode cX11_would 230 = .ok (.invokevirtual 381, 3) := by decide +kernel
theorem dX11_would_233 : decode cX11_would 233 = .ok (.invokestatic 256, 3) := by decide +kernel
theorem dX11_would_236 : decode cX11_would 236 = .ok (.istore 4, 2) := by decide +kernel
theorem dX11_would_238 : decode cX11_would 238 = .ok (.aload_n 2, 1) := by decide +kernel
theorem dX11_would_239 : decode cX11_would 239 = .ok (.getfield 165, 3) := by decide +kernel
theorem dX11_would_242 : decode cX11_would 242 = .ok (.iload 6, 2) := by decide +kernel
theorem dX11_would_244 : decode cX11_would 244 = .ok (.iconst 1, 1) := by decide +kernel
theorem dX11_would_245 : decode cX11_would 245 = .ok (.iadd, 1) := by decide +kernel
theorem dX11_would_246 : decode cX11_would 246 = .ok (.invokestatic 200, 3) := by decide +kernel
theorem dX11_would_249 : decode cX11_would 249 = .ok (.istore 6, 2) := by decide +kernel
theorem dX11_would_251 : decode cX11_would 251 = .ok (.iinc 8 1, 3) := by decide +kernel
theorem dX11_would_254 : decode cX11_would 254 = .ok (.goto (-180), 3) := by decide +kernel
theorem dX11_would_257 : decode cX11_would 257 = .ok (.iload 4, 2) := by decide +kernel
theorem dX11_would_259 : decode cX11_would 259 = .ok (.ireturn, 1) := by decide +kernel
theorem dX11_verdict_0 : decode cX11_verdict 0 = .ok (.iload_n 1, 1) := by decide +kernel
theorem dX11_verdict_1 : decode cX11_verdict 1 = .ok (.iconst 0, 1) := by decide +kernel
theorem dX11_verdict_2 : decode cX11_verdict 2 = .ok (.sipush 1000, 3) := by decide +kernel
theorem dX11_verdict_5 : decode cX11_verdict 5 = .ok (.invokestatic 51, 3) := by decide +kernel
theorem dX11_verdict_8 : decode cX11_verdict 8 = .ok (.ifCond .ne 7, 3) := by decide +kernel
theorem dX11_verdict_11 : decode cX11_verdict 11 = .ok (.ldc2_w 358, 3) := by decide +kernel
theorem dX11_verdict_14 : decode cX11_verdict 14 = .ok (.lreturn, 1) := by decide +kernel
theorem dX11_verdict_15 : decode cX11_verdict 15 = .ok (.ldc2_w 426, 3) := by decide +kernel
theorem dX11_verdict_18 : decode cX11_verdict 18 = .ok (.iload_n 1, 1) := by decide +kernel
theorem dX11_verdict_19 : decode cX11_verdict 19 = .ok (.i2l, 1) := by decide +kernel
theorem dX11_verdict_20 : decode cX11_verdict 20 = .ok (.lsub, 1) := by decide +kernel
theorem dX11_verdict_21 : decode cX11_verdict 21 = .ok (.lstore_n 2, 1) := by decide +kernel
theorem dX11_verdict_22 : decode cX11_verdict 22 = .ok (.lload_n 2, 1) := by decide +kernel
theorem dX11_verdict_23 : decode cX11_verdict 23 = .ok (.lload_n 2, 1) := by decide +kernel
theorem dX11_verdict_24 : decode cX11_verdict 24 = .ok (.lmul, 1) := by decide +kernel
theorem dX11_verdict_25 : decode cX11_verdict 25 = .ok (.lload_n 2, 1) := by decide +kernel
theorem dX11_verdict_26 : decode cX11_verdict 26 = .ok (.ldc2_w 428, 3) := by decide +kernel
theorem dX11_verdict_29 : decode cX11_verdict 29 = .ok (.iload_n 1, 1) := by decide +kernel
theorem dX11_verdict_30 : decode cX11_verdict 30 = .ok (.i2l, 1) := by decide +kernel
theorem dX11_verdict_31 : decode cX11_verdict 31 = .ok (.lmul, 1) := by decide +kernel
theorem dX11_verdict_32 : decode cX11_verdict 32 = .ok (.ladd, 1) := by decide +kernel
theorem dX11_verdict_33 : decode cX11_verdict 33 = .ok (.lmul, 1) := by decide +kernel
theorem dX11_verdict_34 : decode cX11_verdict 34 = .ok (.lreturn, 1) := by decide +kernel
theorem dX11_path_0 : decode cX11_path 0 = .ok (.aload_n 0, 1) := by decide +kernel
theorem dX11_path_1 : decode cX11_path 1 = .ok (.getfield 10, 3) := by decide +kernel
theorem dX11_path_4 : decode cX11_path 4 = .ok (.iload_n 1, 1) := by decide +kernel
theorem dX11_path_5 : decode cX11_path 5 = .ok (.invokevirtual 310, 3) := by decide +kernel
theorem dX11_path_8 : decode cX11_path 8 = .ok (.ifCond .eq 23, 3) := by decide +kernel
theorem dX11_path_11 : decode cX11_path 11 = .ok (.iload_n 2, 1) := by decide +kernel
theorem dX11_path_12 : decode cX11_path 12 = .ok (.iconst 0, 1) := by decide +kernel
theorem dX11_path_13 : decode cX11_path 13 = .ok (.sipush 400, 3) := by decide +kernel
theorem dX11_path_16 : decode cX11_path 16 = .ok (.invokestatic 51, 3) := by decide +kernel
theorem dX11_path_19 : decode cX11_path 19 = .ok (.ifCond .eq 12, 3) := by decide +kernel
theorem dX11_path_22 : decode cX11_path 22 = .ok (.iload_n 3, 1) := by decide +kernel
theorem dX11_path_23 : decode cX11_path 23 = .ok (.iconst 0, 1) := by decide +kernel
theorem dX11_path_24 : decode cX11_path 24 = .ok (.iconst 3, 1) := by decide +kernel
theorem dX11_path_25 : decode cX11_path 25 = .ok (.invokestatic 51, 3) := by decide +kernel
theorem dX11_path_28 : decode cX11_path 28 = .ok (.ifCond .ne 7, 3) := by decide +kernel
theorem dX11_path_31 : decode cX11_path 31 = .ok (.sipush (-10000), 3) := by decide +kernel
theorem dX11_path_34 : decode cX11_path 34 = .ok (.ireturn, 1) := by decide +kernel
theorem dX11_path_35 : decode cX11_path 35 = .ok (.aload_n 0, 1) := by decide +kernel
theorem dX11_path_36 : decode cX11_path 36 = .ok (.getfield 26, 3) := by decide +kernel
theorem dX11_path_39 : decode cX11_path 39 = .ok (.getfield 232, 3) := by decide +kernel
theorem dX11_path_42 : decode cX11_path 42 = .ok (.astore 4, 2) := by decide +kernel
theorem dX11_path_44 : decode cX11_path 44 = .ok (.aload 4, 2) := by decide +kernel
theorem dX11_path_46 : decode cX11_path 46 = .ok (.aload_n 0, 1) := by decide +kernel
theorem dX11_path_47 : decode cX11_path 47 = .ok (.getfield 10, 3) := by decide +kernel
theorem dX11_path_50 : decode cX11_path 50 = .ok (.aload_n 0, 1) := by decide +kernel
theorem dX11_path_51 : decode cX11_path 51 = .ok (.getfield 10, 3) := by decide +kernel
theorem dX11_path_54 : decode cX11_path 54 = .ok (.iload_n 1, 1) := by decide +kernel
theorem dX11_path_55 : decode cX11_path 55 = .ok (.iconst 4, 1) := by decide +kernel
theorem dX11_path_56 : decode cX11_path 56 = .ok (.invokevirtual 313, 3) := by decide +kernel
theorem dX11_path_59 : decode cX11_path 59 = .ok (.aload_n 0, 1) := by decide +kernel
theorem dX11_path_60 : decode cX11_path 60 = .ok (.getfield 10, 3) := by decide +kernel
theorem dX11_path_63 : decode cX11_path 63 = .ok (.iload_n 1, 1) := by decide +kernel
theorem dX11_path_64 : decode cX11_path 64 = .ok (.iconst 5, 1) := by decide +kernel
theorem dX11_path_65 : decode cX11_path 65 = .ok (.invokevirtual 313, 3) := by decide +kernel
theorem dX11_path_68 : decode cX11_path 68 = .ok (.iconst 0, 1) := by decide +kernel
theorem dX11_path_69 : decode cX11_path 69 = .ok (.aload_n 0, 1) := by decide +kernel
theorem dX11_path_70 : decode cX11_path 70 = .ok (.getfield 10, 3) := by decide +kernel
theorem dX11_path_73 : decode cX11_path 73 = .ok (.iload_n 1, 1) := by decide +kernel
theorem dX11_path_74 : decode cX11_path 74 = .ok (.iconst 3, 1) := by decide +kernel
theorem dX11_path_75 : decode cX11_path 75 = .ok (.invokevirtual 313, 3) := by decide +kernel
theorem dX11_path_78 : decode cX11_path 78 = .ok (.aload_n 0, 1) := by decide +kernel
theorem dX11_path_79 : decode cX11_path 79 = .ok (.getfield 10, 3) := by decide +kernel
theorem dX11_path_82 : decode cX11_path 82 = .ok (.iload_n 1, 1) := by decide +kernel
theorem dX11_path_83 : decode cX11_path 83 = .ok (.bipush 6, 2) := by decide +kernel
theorem dX11_path_85 : decode cX11_path 85 = .ok (.invokevirtual 313, 3) := by decide +kernel
theorem dX11_path_88 : decode cX11_path 88 = .ok (.aload_n 0, 1) := by decide +kernel
theorem dX11_path_89 : decode cX11_path 89 = .ok (.getfield 10, 3) := by decide +kernel
theorem dX11_path_92 : decode cX11_path 92 = .ok (.getfield 222, 3) := by decide +kernel
theorem dX11_path_95 : decode cX11_path 95 = .ok (.iconst 1, 1) := by decide +kernel
theorem dX11_path_96 : decode cX11_path 96 = .ok (.iaload, 1) := by decide +kernel
theorem dX11_path_97 : decode cX11_path 97 = .ok (.invokevirtual 235, 3) := by decide +kernel
theorem dX11_path_100 : decode cX11_path 100 = .ok (.aload 4, 2) := by decide +kernel
theorem dX11_path_102 : decode cX11_path 102 = .ok (.aload_n 0, 1) := by decide +kernel
theorem dX11_path_103 : decode cX11_path 103 = .ok (.getfield 10, 3) := by decide +kernel
theorem dX11_path_106 : decode cX11_path 106 = .ok (.getfield 114, 3) := by decide +kernel
theorem dX11_path_109 : decode cX11_path 109 = .ok (.iload_n 2, 1) := by decide +kernel
theorem dX11_path_110 : decode cX11_path 110 = .ok (.invokevirtual 240, 3) := by decide +kernel
theorem dX11_path_113 : decode cX11_path 113 = .ok (.iload_n 3, 1) := by decide +kernel
theorem dX11_path_114 : decode cX11_path 114 = .ok (.tableswitch 46 0 2 #[26, 32, 40], 26) := by decide +kernel
theorem dX11_path_140 : decode cX11_path 140 = .ok (.aload 4, 2) := by decide +kernel
theorem dX11_path_142 : decode cX11_path 142 = .ok (.getfield 253, 3) := by decide +kernel
theorem dX11_path_145 : decode cX11_path 145 = .ok (.ireturn, 1) := by decide +kernel
theorem dX11_path_146 : decode cX11_path 146 = .ok (.aload 4, 2) := by decide +kernel
theorem dX11_path_148 : decode cX11_path 148 = .ok (.getfield 339, 3) := by decide +kernel
theorem dX11_path_151 : decode cX11_path 151 = .ok (.iconst 2, 1) := by decide +kernel
theorem dX11_path_152 : decode cX11_path 152 = .ok (.iaload, 1) := by decide +kernel
theorem dX11_path_153 : decode cX11_path 153 = .ok (.ireturn, 1) := by decide +kernel
theorem dX11_path_154 : decode cX11_path 154 = .ok (.aload 4, 2) := by decide +kernel
theorem dX11_path_156 : decode cX11_path 156 = .ok (.getfield 336, 3) := by decide +kernel
theorem dX11_path_159 : decode cX11_path 159 = .ok (.ireturn, 1) := by decide +kernel
theorem dX11_path_160 : decode cX11_path 160 = .ok (.aload 4, 2) := by decide +kernel
theorem dX11_path_162 : decode cX11_path 162 = .ok (.getfield 339, 3) := by decide +kernel
theorem dX11_path_165 : decode cX11_path 165 = .ok (.iconst 3, 1) := by decide +kernel
theorem dX11_path_166 : decode cX11_path 166 = .ok (.iaload, 1) := by decide +kernel
theorem dX11_path_167 : decode cX11_path 167 = .ok (.ireturn, 1) := by decide +kernel
theorem dX11_needed_0 : decode cX11_needed 0 = .ok (.aload_n 0, 1) := by decide +kernel
theorem dX11_needed_1 : decode cX11_needed 1 = .ok (.iconst 0, 1) := by decide +kernel
theorem dX11_needed_2 : decode cX11_needed 2 = .ok (.iload_n 1, 1) := by decide +kernel
theorem dX11_needed_3 : decode cX11_needed 3 = .ok (.iload_n 2, 1) := by decide +kernel
theorem dX11_needed_4 : decode cX11_needed 4 = .ok (.invokevirtual 186, 3) := by decide +kernel
theorem dX11_needed_7 : decode cX11_needed 7 = .ok (.ifCond .eq 10, 3) := by decide +kernel
theorem dX11_needed_10 : decode cX11_needed 10 = .ok (.iload_n 3, 1) := by decide +kernel
theorem dX11_needed_11 : decode cX11_needed 11 = .ok (.invokestatic 329, 3) := by decide +kernel
theorem dX11_needed_14 : decode cX11_needed 14 = .ok (.ifCond .ne 5, 3) := by decide +kernel
theorem dX11_needed_17 : decode cX11_needed 17 = .ok (.iconst (-1), 1) := by decide +kernel
theorem dX11_needed_18 : decode cX11_needed 18 = .ok (.ireturn, 1) := by decide +kernel
theorem dX11_needed_19 : decode cX11_needed 19 = .ok (.iconst 0, 1) := by decide +kernel
theorem dX11_needed_20 : decode cX11_needed 20 = .ok (.istore 5, 2) := by decide +kernel
theorem dX11_needed_22 : decode cX11_needed 22 = .ok (.iload 5, 2) := by decide +kernel
theorem dX11_needed_24 : decode cX11_needed 24 = .ok (.bipush 99, 2) := by decide +kernel
theorem dX11_needed_26 : decode cX11_needed 26 = .ok (.if_icmp .gt 43, 3) := by decide +kernel
theorem dX11_needed_29 : decode cX11_needed 29 = .ok (.aload_n 0, 1) := by decide +kernel
theorem dX11_needed_30 : decode cX11_needed 30 = .ok (.getfield 26, 3) := by decide +kernel
theorem dX11_needed_33 : decode cX11_needed 33 = .ok (.aload_n 0, 1) := by decide +kernel
theorem dX11_needed_34 : decode cX11_needed 34 = .ok (.getfield 10, 3) := by decide +kernel
theorem dX11_needed_37 : decode cX11_needed 37 = .ok (.iload 5, 2) := by decide +kernel
theorem dX11_needed_39 : decode cX11_needed 39 = .ok (.iload_n 1, 1) := by decide +kernel
theorem dX11_needed_40 : decode cX11_needed 40 = .ok (.iload_n 2, 1) := by decide +kernel
theorem dX11_needed_41 : decode cX11_needed 41 = .ok (.iload_n 3, 1) := by decide +kernel
theorem dX11_needed_42 : decode cX11_needed 42 = .ok (.invokevirtual 381, 3) := by decide +kernel
theorem dX11_needed_45 : decode cX11_needed 45 = .ok (.istore 6, 2) := by decide +kernel
theorem dX11_needed_47 : decode cX11_needed 47 = .ok (.iload 6, 2) := by decide +kernel
theorem dX11_needed_49 : decode cX11_needed 49 = .ok (.iconst (-1), 1) := by decide +kernel
theorem dX11_needed_50 : decode cX11_needed 50 = .ok (.if_icmp .eq 13, 3) := by decide +kernel
theorem dX11_needed_53 : decode cX11_needed 53 = .ok (.iload 6, 2) := by decide +kernel
theorem dX11_needed_55 : decode cX11_needed 55 = .ok (.iload 4, 2) := by decide +kernel
theorem dX11_needed_57 : decode cX11_needed 57 = .ok (.if_icmp .lt 6, 3) := by decide +kernel
theorem dX11_needed_60 : decode cX11_needed 60 = .ok (.iload 5, 2) := by decide +kernel
theorem dX11_needed_62 : decode cX11_needed 62 = .ok (.ireturn, 1) := by decide +kernel
theorem dX11_needed_63 : decode cX11_needed 63 = .ok (.iinc 5 1, 3) := by decide +kernel
theorem dX11_needed_66 : decode cX11_needed 66 = .ok (.goto (-44), 3) := by decide +kernel
theorem dX11_needed_69 : decode cX11_needed 69 = .ok (.iconst (-1), 1) := by decide +kernel
theorem dX11_needed_70 : decode cX11_needed 70 = .ok (.ireturn, 1) := by decide +kernel
theorem dX11_rests_0 : decode cX11_rests 0 = .ok (.aload_n 0, 1) := by decide +kernel
theorem dX11_rests_1 : decode cX11_rests 1 = .ok (.getfield 10, 3) := by decide +kernel
theorem dX11_rests_4 : decode cX11_rests 4 = .ok (.iload_n 1, 1) := by decide +kernel
theorem dX11_rests_5 : decode cX11_rests 5 = .ok (.invokevirtual 80, 3) := by decide +kernel
theorem dX11_rests_8 : decode cX11_rests 8 = .ok (.astore_n 3, 1) := by decide +kernel
theorem dX11_rests_9 : decode cX11_rests 9 = .ok (.aload_n 3, 1) := by decide +kernel
theorem dX11_rests_10 : decode cX11_rests 10 = .ok (.ifnull 14, 3) := by decide +kernel
theorem dX11_rests_13 : decode cX11_rests 13 = .ok (.iload_n 2, 1) := by decide +kernel
theorem dX11_rests_14 : decode cX11_rests 14 = .ok (.iconst 0, 1) := by decide +kernel
theorem dX11_rests_15 : decode cX11_rests 15 = .ok (.sipush 1000, 3) := by decide +kernel
theorem dX11_rests_18 : decode cX11_rests 18 = .ok (.invokestatic 51, 3) := by decide +kernel
theorem dX11_rests_21 : decode cX11_rests 21 = .ok (.ifCond .ne 5, 3) := by decide +kernel
theorem dX11_rests_24 : decode cX11_rests 24 = .ok (.iconst (-1), 1) := by decide +kernel
theorem dX11_rests_25 : decode cX11_rests 25 = .ok (.ireturn, 1) := by decide +kernel
theorem dX11_rests_26 : decode cX11_rests 26 = .ok (.aload_n 0, 1) := by decide +kernel
theorem dX11_rests_27 : decode cX11_rests 27 = .ok (.getfield 33, 3) := by decide +kernel
theorem dX11_rests_30 : decode cX11_rests 30 = .ok (.aload_n 3, 1) := by decide +kernel
theorem dX11_rests_31 : decode cX11_rests 31 = .ok (.aload_n 0, 1) := by decide +kernel
theorem dX11_rests_32 : decode cX11_rests 32 = .ok (.getfield 10, 3) := by decide +kernel
theorem dX11_rests_35 : decode cX11_rests 35 = .ok (.getfield 205, 3) := by decide +kernel
theorem dX11_rests_38 : decode cX11_rests 38 = .ok (.invokevirtual 208, 3) := by decide +kernel
theorem dX11_rests_41 : decode cX11_rests 41 = .ok (.aload_n 3, 1) := by decide +kernel
theorem dX11_rests_42 : decode cX11_rests 42 = .ok (.getfield 89, 3) := by decide +kernel
theorem dX11_rests_45 : decode cX11_rests 45 = .ok (.istore 4, 2) := by decide +kernel
theorem dX11_rests_47 : decode cX11_rests 47 = .ok (.iconst 0, 1) := by decide +kernel
theorem dX11_rests_48 : decode cX11_rests 48 = .ok (.istore 5, 2) := by decide +kernel
theorem dX11_rests_50 : decode cX11_rests 50 = .ok (.iload 5, 2) := by decide +kernel
theorem dX11_rests_52 : decode cX11_rests 52 = .ok (.sipush 400, 3) := by decide +kernel
theorem dX11_rests_55 : decode cX11_rests 55 = .ok (.if_icmp .gt 55, 3) := by decide +kernel
theorem dX11_rests_58 : decode cX11_rests 58 = .ok (.iload 4, 2) := by decide +kernel
theorem dX11_rests_60 : decode cX11_rests 60 = .ok (.iload_n 2, 1) := by decide +kernel
theorem dX11_rests_61 : decode cX11_rests 61 = .ok (.if_icmp .gt 6, 3) := by decide +kernel
theorem dX11_rests_64 : decode cX11_rests 64 = .ok (.iload 5, 2) := by decide +kernel
theorem dX11_rests_66 : decode cX11_rests 66 = .ok (.ireturn, 1) := by decide +kernel
theorem dX11_rests_67 : decode cX11_rests 67 = .ok (.aload_n 0, 1) := by decide +kernel
theorem dX11_rests_68 : decode cX11_rests 68 = .ok (.getfield 33, 3) := by decide +kernel
theorem dX11_rests_71 : decode cX11_rests 71 = .ok (.iload 4, 2) := by decide +kernel
theorem dX11_rests_73 : decode cX11_rests 73 = .ok (.aload_n 3, 1) := by decide +kernel
theorem dX11_rests_74 : decode cX11_rests 74 = .ok (.getfield 247, 3) := by decide +kernel
theorem dX11_rests_77 : decode cX11_rests 77 = .ok (.invokevirtual 367, 3) := by decide +kernel
theorem dX11_rests_80 : decode cX11_rests 80 = .ok (.iconst 0, 1) := by decide +kernel
theorem dX11_rests_81 : decode cX11_rests 81 = .ok (.iload 4, 2) := by decide +kernel
theorem dX11_rests_83 : decode cX11_rests 83 = .ok (.aload_n 0, 1) := by decide +kernel
theorem dX11_rests_84 : decode cX11_rests 84 = .ok (.getfield 33, 3) := by decide +kernel
theorem dX11_rests_87 : decode cX11_rests 87 = .ok (.aload_n 0, 1) := by decide +kernel
theorem dX11_rests_88 : decode cX11_rests 88 = .ok (.getfield 10, 3) := by decide +kernel
theorem dX11_rests_91 : decode cX11_rests 91 = .ok (.getfield 124, 3) := by decide +kernel
theorem dX11_rests_94 : decode cX11_rests 94 = .ok (.iconst 2, 1) := by decide +kernel
theorem dX11_rests_95 : decode cX11_rests 95 = .ok (.invokevirtual 216, 3) := by decide +kernel
theorem dX11_rests_98 : decode cX11_rests 98 = .ok (.isub, 1) := by decide +kernel
theorem dX11_rests_99 : decode cX11_rests 99 = .ok (.invokestatic 256, 3) := by decide +kernel
theorem dX11_rests_102 : decode cX11_rests 102 = .ok (.istore 4, 2) := by decide +kernel
theorem dX11_rests_104 : decode cX11_rests 104 = .ok (.iinc 5 1, 3) := by decide +kernel
theorem dX11_rests_107 : decode cX11_rests 107 = .ok (.goto (-57), 3) := by decide +kernel
theorem dX11_rests_110 : decode cX11_rests 110 = .ok (.iconst (-1), 1) := by decide +kernel
theorem dX11_rests_111 : decode cX11_rests 111 = .ok (.ireturn, 1) := by decide +kernel
theorem dX11_within_0 : decode cX11_within 0 = .ok (.iload_n 0, 1) := by decide +kernel
theorem dX11_within_1 : decode cX11_within 1 = .ok (.iload_n 1, 1) := by decide +kernel
theorem dX11_within_2 : decode cX11_within 2 = .ok (.if_icmp .lt 12, 3) := by decide +kernel
theorem dX11_within_5 : decode cX11_within 5 = .ok (.iload_n 0, 1) := by decide +kernel
theorem dX11_within_6 : decode cX11_within 6 = .ok (.iload_n 2, 1) := by decide +kernel
theorem dX11_within_7 : decode cX11_within 7 = .ok (.if_icmp .gt 7, 3) := by decide +kernel
theorem dX11_within_10 : decode cX11_within 10 = .ok (.iconst 1, 1) := by decide +kernel
theorem dX11_within_11 : decode cX11_within 11 = .ok (.goto 4, 3) := by decide +kernel
theorem dX11_within_14 : decode cX11_within 14 = .ok (.iconst 0, 1) := by decide +kernel
theorem dX11_within_15 : decode cX11_within 15 = .ok (.ireturn, 1) := by decide +kernel
theorem dX11_hold_0 : decode cX11_hold 0 = .ok (.iload_n 0, 1) := by decide +kernel
theorem dX11_hold_1 : decode cX11_hold 1 = .ok (.iload_n 1, 1) := by decide +kernel
theorem dX11_hold_2 : decode cX11_hold 2 = .ok (.if_icmp .ge 7, 3) := by decide +kernel
theorem dX11_hold_5 : decode cX11_hold 5 = .ok (.iload_n 1, 1) := by decide +kernel
theorem dX11_hold_6 : decode cX11_hold 6 = .ok (.goto 13, 3) := by decide +kernel
theorem dX11_hold_9 : decode cX11_hold 9 = .ok (.iload_n 0, 1) := by decide +kernel
theorem dX11_hold_10 : decode cX11_hold 10 = .ok (.iload_n 2, 1) := by decide +kernel
theorem dX11_hold_11 : decode cX11_hold 11 = .ok (.if_icmp .le 7, 3) := by decide +kernel
theorem dX11_hold_14 : decode cX11_hold 14 = .ok (.iload_n 2, 1) := by decide +kernel
theorem dX11_hold_15 : decode cX11_hold 15 = .ok (.goto 4, 3) := by decide +kernel
theorem dX11_hold_18 : decode cX11_hold 18 = .ok (.iload_n 0, 1) := by decide +kernel
theorem dX11_hold_19 : decode cX11_hold 19 = .ok (.ireturn, 1) := by decide +kernel
theorem dX12_init_0 : decode cX12_init 0 = .ok (.aload_n 0, 1) := by decide +kernel
theorem dX12_init_1 : decode cX12_init 1 = .ok (.invokespecial 1, 3) := by decide +kernel
theorem dX12_init_4 : decode cX12_init 4 = .ok (.aload_n 0, 1) := by decide +kernel
theorem dX12_init_5 : decode cX12_init 5 = .ok (.sipush 4296, 3) := by decide +kernel
theorem dX12_init_8 : decode cX12_init 8 = .ok (.newarray .int, 2) := by decide +kernel
theorem dX12_init_10 : decode cX12_init 10 = .ok (.putfield 7, 3) := by decide +kernel
theorem dX12_init_13 : decode cX12_init 13 = .ok (.aload_n 0, 1) := by decide +kernel
theorem dX12_init_14 : decode cX12_init 14 = .ok (.sipush 4296, 3) := by decide +kernel
theorem dX12_init_17 : decode cX12_init 17 = .ok (.newarray .int, 2) := by decide +kernel
theorem dX12_init_19 : decode cX12_init 19 = .ok (.putfield 13, 3) := by decide +kernel
theorem dX12_init_22 : decode cX12_init 22 = .ok (.aload_n 0, 1) := by decide +kernel
theorem dX12_init_23 : decode cX12_init 23 = .ok (.sipush 480, 3) := by decide +kernel
theorem dX12_init_26 : decode cX12_init 26 = .ok (.newarray .int, 2) := by decide +kernel
theorem dX12_init_28 : decode cX12_init 28 = .ok (.putfield 16, 3) := by decide +kernel
theorem dX12_init_31 : decode cX12_init 31 = .ok (.aload_n 0, 1) := by decide +kernel
theorem dX12_init_32 : decode cX12_init 32 = .ok (.bipush 64, 2) := by decide +kernel
theorem dX12_init_34 : decode cX12_init 34 = .ok (.newarray .int, 2) := by decide +kernel
theorem dX12_init_36 : decode cX12_init 36 = .ok (.putfield 19, 3) := by decide +kernel
theorem dX12_init_39 : decode cX12_init 39 = .ok (.aload_n 0, 1) := by decide +kernel
theorem dX12_init_40 : decode cX12_init 40 = .ok (.sipush 820, 3) := by decide +kernel
theorem dX12_init_43 : decode cX12_init 43 = .ok (.newarray .int, 2) := by decide +kernel
theorem dX12_init_45 : decode cX12_init 45 = .ok (.putfield 22, 3) := by decide +kernel
theorem dX12_init_48 : decode cX12_init 48 = .ok (.aload_n 0, 1) := by decide +kernel
theorem dX12_init_49 : decode cX12_init 49 = .ok (.bipush 60, 2) := by decide +kernel
theorem dX12_init_51 : decode cX12_init 51 = .ok (.newarray .int, 2) := by decide +kernel
theorem dX12_init_53 : decode cX12_init 53 = .ok (.putfield 25, 3) := by decide +kernel
theorem dX12_init_56 : decode cX12_init 56 = .ok (.aload_n 0, 1) := by decide +kernel
theorem dX12_init_57 : decode cX12_init 57 = .ok (.sipush 400, 3) := by decide +kernel
theorem dX12_init_60 : decode cX12_init 60 = .ok (.newarray .int, 2) := by decide +kernel
theorem dX12_init_62 : decode cX12_init 62 = .ok (.putfield 28, 3) := by decide +kernel
theorem dX12_init_65 : decode cX12_init 65 = .ok (.aload_n 0, 1) := by decide +kernel
theorem dX12_init_66 : decode cX12_init 66 = .ok (.sipush 420, 3) := by decide +kernel
theorem dX12_init_69 : decode cX12_init 69 = .ok (.newarray .int, 2) := by decide +kernel
theorem dX12_init_71 : decode cX12_init 71 = .ok (.putfield 31, 3) := by decide +kernel
theorem dX12_init_74 : decode cX12_init 74 = .ok (.aload_n 0, 1) := by decide +kernel
theorem dX12_init_75 : decode cX12_init 75 = .ok (.bipush 20, 2) := by decide +kernel
theorem dX12_init_77 : decode cX12_init 77 = .ok (.newarray .int, 2) := by decide +kernel
theorem dX12_init_79 : decode cX12_init 79 = .ok (.putfield 34, 3) := by decide +kernel
theorem dX12_init_82 : decode cX12_init 82 = .ok (.aload_n 0, 1) := by decide +kernel
theorem dX12_init_83 : decode cX12_init 83 = .ok (.bipush 60, 2) := by decide +kernel
theorem dX12_init_85 : decode cX12_init 85 = .ok (.newarray .int, 2) := by decide +kernel
theorem dX12_init_87 : decode cX12_init 87 = .ok (.putfield 37, 3) := by decide +kernel
theorem dX12_init_90 : decode cX12_init 90 = .ok (.aload_n 0, 1) := by decide +kernel
theorem dX12_init_91 : decode cX12_init 91 = .ok (.iconst (-1), 1) := by decide +kernel
theorem dX12_init_92 : decode cX12_init 92 = .ok (.putfield 40, 3) := by decide +kernel
theorem dX12_init_95 : decode cX12_init 95 = .ok (.aload_n 0, 1) := by decide +kernel
theorem dX12_init_96 : decode cX12_init 96 = .ok (.ldc 44, 2) := by decide +kernel
theorem dX12_init_98 : decode cX12_init 98 = .ok (.newarray .int, 2) := by decide +kernel
theorem dX12_init_100 : decode cX12_init 100 = .ok (.putfield 45, 3) := by decide +kernel
theorem dX12_init_103 : decode cX12_init 103 = .ok (.aload_n 0, 1) := by decide +kernel
theorem dX12_init_104 : decode cX12_init 104 = .ok (.ldc 44, 2) := by decide +kernel
theorem dX12_init_106 : decode cX12_init 106 = .ok (.newarray .int, 2) := by decide +kernel
theorem dX12_init_108 : decode cX12_init 108 = .ok (.putfield 48, 3) := by decide +kernel
theorem dX12_init_111 : decode cX12_init 111 = .ok (.aload_n 0, 1) := by decide +kernel
theorem dX12_init_112 : decode cX12_init 112 = .ok (.ldc 44, 2) := by decide +kernel
theorem dX12_init_114 : decode cX12_init 114 = .ok (.newarray .boolean, 2) := by decide +kernel
theorem dX12_init_116 : decode cX12_init 116 = .ok (.putfield 51, 3) := by decide +kernel
theorem dX12_init_119 : decode cX12_init 119 = .ok (.aload_n 0, 1) := by decide +kernel
theorem dX12_init_120 : decode cX12_init 120 = .ok (.sipush 7007, 3) := by decide +kernel
theorem dX12_init_123 : decode cX12_init 123 = .ok (.newarray .int, 2) := by decide +kernel
theorem dX12_init_125 : decode cX12_init 125 = .ok (.putfield 55, 3) := by decide +kernel
theorem dX12_init_128 : decode cX12_init 128 = .ok (.aload_n 0, 1) := by decide +kernel
theorem dX12_init_129 : decode cX12_init 129 = .ok (.sipush 7007, 3) := by decide +kernel
theorem dX12_init_132 : decode cX12_init 132 = .ok (.newarray .int, 2) := by decide +kernel
theorem dX12_init_134 : decode cX12_init 134 = .ok (.putfield 58, 3) := by decide +kernel
theorem dX12_init_137 : decode cX12_init 137 = .ok (.aload_n 0, 1) := by decide +kernel
theorem dX12_init_138 : decode cX12_init 138 = .ok (.bipush 10, 2) := by decide +kernel
theorem dX12_init_140 : decode cX12_init 140 = .ok (.newarray .int, 2) := by decide +kernel
theorem dX12_init_142 : decode cX12_init 142 = .ok (.putfield 61, 3) := by decide +kernel
theorem dX12_init_145 : decode cX12_init 145 = .ok (.aload_n 0, 1) := by decide +kernel
theorem dX12_init_146 : decode cX12_init 146 = .ok (.getfield 7, 3) := by decide +kernel
theorem dX12_init_149 : decode cX12_init 149 = .ok (.bipush 64, 2) := by decide +kernel
theorem dX12_init_151 : decode cX12_init 151 = .ok (.bipush 7, 2) := by decide +kernel
theorem dX12_init_153 : decode cX12_init 153 = .ok (.iastore, 1) := by decide +kernel
theorem dX12_init_154 : decode cX12_init 154 = .ok (.return_, 1) := by decide +kernel
theorem dX12_isIn_0 : decode cX12_isIn 0 = .ok (.iload_n 0, 1) := by decide +kernel
theorem dX12_isIn_1 : decode cX12_isIn 1 = .ok (.iload_n 1, 1) := by decide +kernel
theorem dX12_isIn_2 : decode cX12_isIn 2 = .ok (.if_icmp .lt 12, 3) := by decide +kernel
theorem dX12_isIn_5 : decode cX12_isIn 5 = .ok (.iload_n 0, 1) := by decide +kernel
theorem dX12_isIn_6 : decode cX12_isIn 6 = .ok (.iload_n 2, 1) := by decide +kernel
theorem dX12_isIn_7 : decode cX12_isIn 7 = .ok (.if_icmp .gt 7, 3) := by decide +kernel
theorem dX12_isIn_10 : decode cX12_isIn 10 = .ok (.iconst 1, 1) := by decide +kernel
theorem dX12_isIn_11 : decode cX12_isIn 11 = .ok (.goto 4, 3) := by decide +kernel
theorem dX12_isIn_14 : decode cX12_isIn 14 = .ok (.iconst 0, 1) := by decide +kernel
theorem dX12_isIn_15 : decode cX12_isIn 15 = .ok (.ireturn, 1) := by decide +kernel
theorem dX12_lesser_0 : decode cX12_lesser 0 = .ok (.iload_n 0, 1) := by decide +kernel
theorem dX12_lesser_1 : decode cX12_lesser 1 = .ok (.iload_n 1, 1) := by decide +kernel
theorem dX12_lesser_2 : decode cX12_lesser 2 = .ok (.if_icmp .ge 7, 3) := by decide +kernel
theorem dX12_lesser_5 : decode cX12_lesser 5 = .ok (.iload_n 0, 1) := by decide +kernel
theorem dX12_lesser_6 : decode cX12_lesser 6 = .ok (.goto 4, 3) := by decide +kernel
theorem dX12_lesser_9 : decode cX12_lesser 9 = .ok (.iload_n 1, 1) := by decide +kernel
theorem dX12_lesser_10 : decode cX12_lesser 10 = .ok (.ireturn, 1) := by decide +kernel
theorem dX12_greater_0 : decode cX12_greater 0 = .ok (.iload_n 0, 1) := by decide +kernel
theorem dX12_greater_1 : decode cX12_greater 1 = .ok (.iload_n 1, 1) := by decide +kernel
theorem dX12_greater_2 : decode cX12_greater 2 = .ok (.if_icmp .le 7, 3) := by decide +kernel
theorem dX12_greater_5 : decode cX12_greater 5 = .ok (.iload_n 0, 1) := by decide +kernel
theorem dX12_greater_6 : decode cX12_greater 6 = .ok (.goto 4, 3) := by decide +kernel
theorem dX12_greater_9 : decode cX12_greater 9 = .ok (.iload_n 1, 1) := by decide +kernel
theorem dX12_greater_10 : decode cX12_greater 10 = .ok (.ireturn, 1) := by decide +kernel
theorem dX12_held_0 : decode cX12_held 0 = .ok (.iload_n 1, 1) := by decide +kernel
theorem dX12_held_1 : decode cX12_held 1 = .ok (.iload_n 2, 1) := by decide +kernel
theorem dX12_held_2 : decode cX12_held 2 = .ok (.iload_n 0, 1) := by decide +kernel
theorem dX12_held_3 : decode cX12_held 3 = .ok (.invokestatic 64, 3) := by decide +kernel
theorem dX12_held_6 : decode cX12_held 6 = .ok (.invokestatic 68, 3) := by decide +kernel
theorem dX12_held_9 : decode cX12_held 9 = .ok (.ireturn, 1) := by decide +kernel
theorem dX12_weather_0 : decode cX12_weather 0 = .ok (.aload_n 0, 1) := by decide +kernel
theorem dX12_weather_1 : decode cX12_weather 1 = .ok (.getfield 7, 3) := by decide +kernel
theorem dX12_weather_4 : decode cX12_weather 4 = .ok (.bipush 60, 2) := by decide +kernel
theorem dX12_weather_6 : decode cX12_weather 6 = .ok (.iload_n 1, 1) := by decide +kernel
theorem dX12_weather_7 : decode cX12_weather 7 = .ok (.iadd, 1) := by decide +kernel
theorem dX12_weather_8 : decode cX12_weather 8 = .ok (.iaload, 1) := by decide +kernel
theorem dX12_weather_9 : decode cX12_weather 9 = .ok (.ireturn, 1) := by decide +kernel
theorem dX12_own_0 : decode cX12_own 0 = .ok (.aload_n 0, 1) := by decide +kernel
theorem dX12_own_1 : decode cX12_own 1 = .ok (.getfield 7, 3) := by decide +kernel
theorem dX12_own_4 : decode cX12_own 4 = .ok (.iconst 4, 1) := by decide +kernel
theorem dX12_own_5 : decode cX12_own 5 = .ok (.bipush 7, 2) := by decide +kernel
theorem dX12_own_7 : decode cX12_own 7 = .ok (.iload_n 1, 1) := by decide +kernel
theorem dX12_own_8 : decode cX12_own 8 = .ok (.imul, 1) := by decide +kernel
theorem dX12_own_9 : decode cX12_own 9 = .ok (.iadd, 1) := by decide +kernel
theorem dX12_own_10 : decode cX12_own 10 = .ok (.iload_n 2, 1) := by decide +kernel
theorem dX12_own_11 : decode cX12_own 11 = .ok (.iadd, 1) := by decide +kernel
theorem dX12_own_12 : decode cX12_own 12 = .ok (.iaload, 1) := by decide +kernel
theorem dX12_own_13 : decode cX12_own 13 = .ok (.ireturn, 1) := by decide +kernel
theorem dX12_gives_0 : decode cX12_gives 0 = .ok (.aload_n 0, 1) := by decide +kernel
theorem dX12_gives_1 : decode cX12_gives 1 = .ok (.getfield 7, 3) := by decide +kernel
theorem dX12_gives_4 : decode cX12_gives 4 = .ok (.iconst 4, 1) := by decide +kernel
theorem dX12_gives_5 : decode cX12_gives 5 = .ok (.bipush 7, 2) := by decide +kernel
theorem dX12_gives_7 : decode cX12_gives 7 = .ok (.iload_n 1, 1) := by decide +kernel
theorem dX12_gives_8 : decode cX12_gives 8 = .ok (.imul, 1) := by decide +kernel
theorem dX12_gives_9 : decode cX12_gives 9 = .ok (.iadd, 1) := by decide +kernel
theorem dX12_gives_10 : decode cX12_gives 10 = .ok (.iload_n 2, 1) := by decide +kernel
theorem dX12_gives_11 : decode cX12_gives 11 = .ok (.iadd, 1) := by decide +kernel
theorem dX12_gives_12 : decode cX12_gives 12 = .ok (.iload_n 3, 1) := by decide +kernel
theorem dX12_gives_13 : decode cX12_gives 13 = .ok (.iastore, 1) := by decide +kernel
theorem dX12_gives_14 : decode cX12_gives 14 = .ok (.return_, 1) := by decide +kernel
theorem dX12_isThrower_0 : decode cX12_isThrower 0 = .ok (.iload_n 1, 1) := by decide +kernel
theorem dX12_isThrower_1 : decode cX12_isThrower 1 = .ok (.iconst 0, 1) := by decide +kernel
theorem dX12_isThrower_2 : decode cX12_isThrower 2 = .ok (.aload_n 0, 1) := by decide +kernel
theorem dX12_isThrower_3 : decode cX12_isThrower 3 = .ok (.getfield 7, 3) := by decide +kernel
theorem dX12_isThrower_6 : decode cX12_isThrower 6 = .ok (.bipush 68, 2) := by decide +kernel
theorem dX12_isThrower_8 : decode cX12_isThrower 8 = .ok (.iaload, 1) := by decide +kernel
theorem dX12_isThrower_9 : decode cX12_isThrower 9 = .ok (.iconst 1, 1) := by decide +kernel
theorem dX12_isThrower_10 : decode cX12_isThrower 10 = .ok (.isub, 1) := by decide +kernel
theorem dX12_isThrower_11 : decode cX12_isThrower 11 = .ok (.invokestatic 71, 3) := by decide +kernel
theorem dX12_isThrower_14 : decode cX12_isThrower 14 = .ok (.ireturn, 1) := by decide +kernel
theorem dX12_isSpear_0 : decode cX12_isSpear 0 = .ok (.iload_n 1, 1) := by decide +kernel
theorem dX12_isSpear_1 : decode cX12_isSpear 1 = .ok (.iconst 0, 1) := by decide +kernel
theorem dX12_isSpear_2 : decode cX12_isSpear 2 = .ok (.aload_n 0, 1) := by decide +kernel
theorem dX12_isSpear_3 : decode cX12_isSpear 3 = .ok (.getfield 7, 3) := by decide +kernel
theorem dX12_isSpear_6 : decode cX12_isSpear 6 = .ok (.bipush 67, 2) := by decide +kernel
theorem dX12_isSpear_8 : decode cX12_isSpear 8 = .ok (.iaload, 1) := by decide +kernel
theorem dX12_isSpear_9 : decode cX12_isSpear 9 = .ok (.iconst 1, 1) := by decide +kernel
theorem dX12_isSpear_10 : decode cX12_isSpear 10 = .ok (.isub, 1) := by decide +kernel
theorem dX12_isSpear_11 : decode cX12_isSpear 11 = .ok (.invokestatic 71, 3) := by decide +kernel
theorem dX12_isSpear_14 : decode cX12_isSpear 14 = .ok (.ireturn, 1) := by decide +kernel
theorem dX12_forgets_0 : decode cX12_forgets 0 = .ok (.aload_n 0, 1) := by decide +kernel
theorem dX12_forgets_1 : decode cX12_forgets 1 = .ok (.iconst 0, 1) := by decide +kernel
theorem dX12_forgets_2 : decode cX12_forgets 2 = .ok (.putfield 75, 3) := by decide +kernel
theorem dX12_forgets_5 : decode cX12_forgets 5 = .ok (.return_, 1) := by decide +kernel
theorem dX12_state_0 : decode cX12_state 0 = .ok (.aload_n 0, 1) := by decide +kernel
theorem dX12_state_1 : decode cX12_state 1 = .ok (.getfield 7, 3) := by decide +kernel
theorem dX12_state_4 : decode cX12_state 4 = .ok (.iconst 3, 1) := by decide +kernel
theorem dX12_state_5 : decode cX12_state 5 = .ok (.iaload, 1) := by decide +kernel
theorem dX12_state_6 : decode cX12_state 6 = .ok (.istore_n 2, 1) := by decide +kernel
theorem dX12_state_7 : decode cX12_state 7 = .ok (.aload_n 0, 1) := by decide +kernel
theorem dX12_state_8 : decode cX12_state 8 = .ok (.getfield 7, 3) := by decide +kernel
theorem dX12_state_11 : decode cX12_state 11 = .ok (.iconst 3, 1) := by decide +kernel
theorem dX12_state_12 : decode cX12_state 12 = .ok (.iload_n 1, 1) := by decide +kernel
theorem dX12_state_13 : decode cX12_state 13 = .ok (.iastore, 1) := by decide +kernel
theorem dX12_state_14 : decode cX12_state 14 = .ok (.aload_n 0, 1) := by decide +kernel
theorem dX12_state_15 : decode cX12_state 15 = .ok (.invokevirtual 78, 3) := by decide +kernel
theorem dX12_state_18 : decode cX12_state 18 = .ok (.iload_n 2, 1) := by decide +kernel
theorem dX12_state_19 : decode cX12_state 19 = .ok (.ireturn, 1) := by decide +kernel
theorem dX12_draw_0 : decode cX12_draw 0 = .ok (.aload_n 0, 1) := by decide +kernel
theorem dX12_draw_1 : decode cX12_draw 1 = .ok (.getfield 7, 3) := by decide +kernel
theorem dX12_draw_4 : decode cX12_draw 4 = .ok (.iconst 3, 1) := by decide +kernel
theorem dX12_draw_5 : decode cX12_draw 5 = .ok (.ldc 81, 2) := by decide +kernel
theorem dX12_draw_7 : decode cX12_draw 7 = .ok (.aload_n 0, 1) := by decide +kernel
theorem dX12_draw_8 : decode cX12_draw 8 = .ok (.getfield 7, 3) := by decide +kernel
theorem dX12_draw_11 : decode cX12_draw 11 = .ok (.iconst 3, 1) := by decide +kernel
theorem dX12_draw_12 : decode cX12_draw 12 = .ok (.iaload, 1) := by decide +kernel
theorem dX12_draw_13 : decode cX12_draw 13 = .ok (.imul, 1) := by decide +kernel
theorem dX12_draw_14 : decode cX12_draw 14 = .ok (.ldc 82, 2) := by decide +kernel
theorem dX12_draw_16 : decode cX12_draw 16 = .ok (.iadd, 1) := by decide +kernel
theorem dX12_draw_17 : decode cX12_draw 17 = .ok (.iastore, 1) := by decide +kernel
theorem dX12_draw_18 : decode cX12_draw 18 = .ok (.aload_n 0, 1) := by decide +kernel
theorem dX12_draw_19 : decode cX12_draw 19 = .ok (.getfield 7, 3) := by decide +kernel
theorem dX12_draw_22 : decode cX12_draw 22 = .ok (.iconst 3, 1) := by decide +kernel
theorem dX12_draw_23 : decode cX12_draw 23 = .ok (.iaload, 1) := by decide +kernel
theorem dX12_draw_24 : decode cX12_draw 24 = .ok (.bipush 8, 2) := by decide +kernel
theorem dX12_draw_26 : decode cX12_draw 26 = .ok (.iushr, 1) := by decide +kernel
theorem dX12_draw_27 : decode cX12_draw 27 = .ok (.iload_n 1, 1) := by decide +kernel
theorem dX12_draw_28 : decode cX12_draw 28 = .ok (.irem, 1) := by decide +kernel
theorem dX12_draw_29 : decode cX12_draw 29 = .ok (.ireturn, 1) := by decide +kernel
theorem dX12_spear_0 : decode cX12_spear 0 = .ok (.iload_n 1, 1) := by decide +kernel
theorem dX12_spear_1 : decode cX12_spear 1 = .ok (.iconst 0, 1) := by decide +kernel
theorem dX12_spear_2 : decode cX12_spear 2 = .ok (.bipush 9, 2) := by decide +kernel
theorem dX12_spear_4 : decode cX12_spear 4 = .ok (.invokestatic 71, 3) := by decide +kernel
theorem dX12_spear_7 : decode cX12_spear 7 = .ok (.ifCond .eq 25, 3) := by decide +kernel
theorem dX12_spear_10 : decode cX12_spear 10 = .ok (.iload_n 2, 1) := by decide +kernel
theorem dX12_spear_11 : decode cX12_spear 11 = .ok (.iconst 0, 1) := by decide +kernel
theorem dX12_spear_12 : decode cX12_spear 12 = .ok (.bipush 9, 2) := by decide +kernel
theorem dX12_spear_14 : decode cX12_spear 14 = .ok (.invokestatic 71, 3) := by decide +kernel
theorem dX12_spear_17 : decode cX12_spear 17 = .ok (.ifCond .eq 15, 3) := by decide +kernel
theorem dX12_spear_20 : decode cX12_spear 20 = .ok (.aload_n 0, 1) := by decide +kernel
theorem dX12_spear_21 : decode cX12_spear 21 = .ok (.getfield 7, 3) := by decide +kernel
theorem dX12_spear_24 : decode cX12_spear 24 = .ok (.bipush 67, 2) := by decide +kernel
theorem dX12_spear_26 : decode cX12_spear 26 = .ok (.iaload, 1) := by decide +kernel
theorem dX12_spear_27 : decode cX12_spear 27 = .ok (.bipush 6, 2) := by decide +kernel
theorem dX12_spear_29 : decode cX12_spear 29 = .ok (.if_icmp .ne 5, 3) := by decide +kernel
theorem dX12_spear_32 : decode cX12_spear 32 = .ok (.iconst (-1), 1) := by decide +kernel
theorem dX12_spear_33 : decode cX12_spear 33 = .ok (.ireturn, 1) := by decide +kernel
theorem dX12_spear_34 : decode cX12_spear 34 = .ok (.aload_n 0, 1) := by decide +kernel
theorem dX12_spear_35 : decode cX12_spear 35 = .ok (.getfield 7, 3) := by decide +kernel
theorem dX12_spear_38 : decode cX12_spear 38 = .ok (.bipush 67, 2) := by decide +kernel
theorem dX12_spear_40 : decode cX12_spear 40 = .ok (.iaload, 1) := by decide +kernel
theorem dX12_spear_41 : decode cX12_spear 41 = .ok (.istore_n 3, 1) := by decide +kernel
theorem dX12_spear_42 : decode cX12_spear 42 = .ok (.aload_n 0, 1) := by decide +kernel
theorem dX12_spear_43 : decode cX12_spear 43 = .ok (.getfield 7, 3) := by decide +kernel
theorem dX12_spear_46 : decode cX12_spear 46 = .ok (.bipush 70, 2) := by decide +kernel
theorem dX12_spear_48 : decode cX12_spear 48 = .ok (.iconst 2, 1) := by decide +kernel
theorem dX12_spear_49 : decode cX12_spear 49 = .ok (.iload_n 3, 1) := by decide +kernel
theorem dX12_spear_50 : decode cX12_spear 50 = .ok (.imul, 1) := by decide +kernel
theorem dX12_spear_51 : decode cX12_spear 51 = .ok (.iadd, 1) := by decide +kernel
theorem dX12_spear_52 : decode cX12_spear 52 = .ok (.iload_n 1, 1) := by decide +kernel
theorem dX12_spear_53 : decode cX12_spear 53 = .ok (.iastore, 1) := by decide +kernel
theorem dX12_spear_54 : decode cX12_spear 54 = .ok (.aload_n 0, 1) := by decide +kernel
theorem dX12_spear_55 : decode cX12_spear 55 = .ok (.getfield 7, 3) := by decide +kernel
theorem dX12_spear_58 : decode cX12_spear 58 = .ok (.bipush 70, 2) := by decide +kernel
theorem dX12_spear_60 : decode cX12_spear 60 = .ok (.iconst 2, 1) := by decide +kernel
theorem dX12_spear_61 : decode cX12_spear 61 = .ok (.iload_n 3, 1) := by decide +kernel
theorem dX12_spear_62 : decode cX12_spear 62 = .ok (.imul, 1) := by decide +kernel
theorem dX12_spear_63 : decode cX12_spear 63 = .ok (.iadd, 1) := by decide +kernel
theorem dX12_spear_64 : decode cX12_spear 64 = .ok (.iconst 1, 1) := by decide +kernel
theorem dX12_spear_65 : decode cX12_spear 65 = .ok (.iadd, 1) := by decide +kernel
theorem dX12_spear_66 : decode cX12_spear 66 = .ok (.iload_n 2, 1) := by decide +kernel
theorem dX12_spear_67 : decode cX12_spear 67 = .ok (.iastore, 1) := by decide +kernel
theorem dX12_spear_68 : decode cX12_spear 68 = .ok (.aload_n 0, 1) := by decide +kernel
theorem dX12_spear_69 : decode cX12_spear 69 = .ok (.getfield 7, 3) := by decide +kernel
theorem dX12_spear_72 : decode cX12_spear 72 = .ok (.bipush 67, 2) := by decide +kernel
theorem dX12_spear_74 : decode cX12_spear 74 = .ok (.dup2, 1) := by decide +kernel
theorem dX12_spear_75 : decode cX12_spear 75 = .ok (.iaload, 1) := by decide +kernel
theorem dX12_spear_76 : decode cX12_spear 76 = .ok (.iconst 1, 1) := by decide +kernel
theorem dX12_spear_77 : decode cX12_spear 77 = .ok (.iadd, 1) := by decide +kernel
theorem dX12_spear_78 : decode cX12_spear 78 = .ok (.iastore, 1) := by decide +kernel
theorem dX12_spear_79 : decode cX12_spear 79 = .ok (.aload_n 0, 1) := by decide +kernel
theorem dX12_spear_80 : decode cX12_spear 80 = .ok (.invokevirtual 78, 3) := by decide +kernel
theorem dX12_spear_83 : decode cX12_spear 83 = .ok (.iload_n 3, 1) := by decide +kernel
theorem dX12_spear_84 : decode cX12_spear 84 = .ok (.ireturn, 1) := by decide +kernel
theorem dX12_thrower_0 : decode cX12_thrower 0 = .ok (.iload_n 1, 1) := by decide +kernel
theorem dX12_thrower_1 : decode cX12_thrower 1 = .ok (.iconst 0, 1) := by decide +kernel
theorem dX12_thrower_2 : decode cX12_thrower 2 = .ok (.bipush 99, 2) := by decide +kernel
theorem dX12_thrower_4 : decode cX12_thrower 4 = .ok (.invokestatic 71, 3) := by decide +kernel
theorem dX12_thrower_7 : decode cX12_thrower 7 = .ok (.ifCond .eq 33, 3) := by decide +kernel
theorem dX12_thrower_10 : decode cX12_thrower 10 = .ok (.aload_n 0, 1) := by decide +kernel
theorem dX12_thrower_11 : decode cX12_thrower 11 = .ok (.getfield 7, 3) := by decide +kernel
theorem dX12_thrower_14 : decode cX12_thrower 14 = .ok (.bipush 68, 2) := by decide +kernel
theorem dX12_thrower_16 : decode cX12_thrower 16 = .ok (.iaload, 1) := by decide +kernel
theorem dX12_thrower_17 : decode cX12_thrower 17 = .ok (.bipush 8, 2) := by decide +kernel
theorem dX12_thrower_19 : decode cX12_thrower 19 = .ok (.if_icmp .eq 21, 3) := by decide +kernel
theorem dX12_thrower_22 : decode cX12_thrower 22 = .ok (.aload_n 0, 1) := by decide +kernel
theorem dX12_thrower_23 : decode cX12_thrower 23 = .ok (.getfield 7, 3) := by decide +kernel
theorem dX12_thrower_26 : decode cX12_thrower 26 = .ok (.iconst 0, 1) := by decide +kernel
theorem dX12_thrower_27 : decode cX12_thrower 27 = .ok (.iaload, 1) := by decide +kernel
theorem dX12_thrower_28 : decode cX12_thrower 28 = .ok (.ifCond .gt 12, 3) := by decide +kernel
theorem dX12_thrower_31 : decode cX12_thrower 31 = .ok (.aload_n 0, 1) := by decide +kernel
theorem dX12_thrower_32 : decode cX12_thrower 32 = .ok (.getfield 7, 3) := by decide +kernel
theorem dX12_thrower_35 : decode cX12_thrower 35 = .ok (.iconst 1, 1) := by decide +kernel
theorem dX12_thrower_36 : decode cX12_thrower 36 = .ok (.iaload, 1) := by decide +kernel
theorem dX12_thrower_37 : decode cX12_thrower 37 = .ok (.ifCond .le 5, 3) := by decide +kernel
theorem dX12_thrower_40 : decode cX12_thrower 40 = .ok (.iconst (-1), 1) := by decide +kernel
theorem dX12_thrower_41 : decode cX12_thrower 41 = .ok (.ireturn, 1) := by decide +kernel
theorem dX12_thrower_42 : decode cX12_thrower 42 = .ok (.aload_n 0, 1) := by decide +kernel
theorem dX12_thrower_43 : decode cX12_thrower 43 = .ok (.getfield 7, 3) := by decide +kernel
theorem dX12_thrower_46 : decode cX12_thrower 46 = .ok (.bipush 68, 2) := by decide +kernel
theorem dX12_thrower_48 : decode cX12_thrower 48 = .ok (.iaload, 1) := by decide +kernel
theorem dX12_thrower_49 : decode cX12_thrower 49 = .ok (.istore_n 2, 1) := by decide +kernel
theorem dX12_thrower_50 : decode cX12_thrower 50 = .ok (.iconst 0, 1) := by decide +kernel
theorem dX12_thrower_51 : decode cX12_thrower 51 = .ok (.istore_n 3, 1) := by decide +kernel
theorem dX12_thrower_52 : decode cX12_thrower 52 = .ok (.iload_n 3, 1) := by decide +kernel
theorem dX12_thrower_53 : decode cX12_thrower 53 = .ok (.bipush 7, 2) := by decide +kernel
theorem dX12_thrower_55 : decode cX12_thrower 55 = .ok (.if_icmp .ge 16, 3) := by decide +kernel
theorem dX12_thrower_58 : decode cX12_thrower 58 = .ok (.aload_n 0, 1) := by decide +kernel
theorem dX12_thrower_59 : decode cX12_thrower 59 = .ok (.iload_n 2, 1) := by decide +kernel
theorem dX12_thrower_60 : decode cX12_thrower 60 = .ok (.iload_n 3, 1) := by decide +kernel
theorem dX12_thrower_61 : decode cX12_thrower 61 = .ok (.iconst 0, 1) := by decide +kernel
theorem dX12_thrower_62 : decode cX12_thrower 62 = .ok (.invokevirtual 83, 3) := by decide +kernel
theorem dX12_thrower_65 : decode cX12_thrower 65 = .ok (.iinc 3 1, 3) := by decide +kernel
theorem dX12_thrower_68 : decode cX12_thrower 68 = .ok (.goto (-16), 3) := by decide +kernel
theorem dX12_thrower_71 : decode cX12_thrower 71 = .ok (.aload_n 0, 1) := by decide +kernel
theorem dX12_thrower_72 : decode cX12_thrower 72 = .ok (.iload_n 2, 1) := by decide +kernel
theorem dX12_thrower_73 : decode cX12_thrower 73 = .ok (.iconst 0, 1) := by decide +kernel
theorem dX12_thrower_74 : decode cX12_thrower 74 = .ok (.iload_n 1, 1) := by decide +kernel
theorem dX12_thrower_75 : decode cX12_thrower 75 = .ok (.invokevirtual 83, 3) := by decide +kernel
theorem dX12_thrower_78 : decode cX12_thrower 78 = .ok (.aload_n 0, 1) := by decide +kernel
theorem dX12_thrower_79 : decode cX12_thrower 79 = .ok (.getfield 7, 3) := by decide +kernel
theorem dX12_thrower_82 : decode cX12_thrower 82 = .ok (.bipush 82, 2) := by decide +kernel
theorem dX12_thrower_84 : decode cX12_thrower 84 = .ok (.iload_n 2, 1) := by decide +kernel
theorem dX12_thrower_85 : decode cX12_thrower 85 = .ok (.iadd, 1) := by decide +kernel
theorem dX12_thrower_86 : decode cX12_thrower 86 = .ok (.iconst 0, 1) := by decide +kernel
theorem dX12_thrower_87 : decode cX12_thrower 87 = .ok (.iastore, 1) := by decide +kernel
theorem dX12_thrower_88 : decode cX12_thrower 88 = .ok (.aload_n 0, 1) := by decide +kernel
theorem dX12_thrower_89 : decode cX12_thrower 89 = .ok (.getfield 7, 3) := by decide +kernel
theorem dX12_thrower_92 : decode cX12_thrower 92 = .ok (.bipush 68, 2) := by decide +kernel
theorem dX12_thrower_94 : decode cX12_thrower 94 = .ok (.dup2, 1) := by decide +kernel
theorem dX12_thrower_95 : decode cX12_thrower 95 = .ok (.iaload, 1) := by decide +kernel
theorem dX12_thrower_96 : decode cX12_thrower 96 = .ok (.iconst 1, 1) := by decide +kernel
theorem dX12_thrower_97 : decode cX12_thrower 97 = .ok (.iadd, 1) := by decide +kernel
theorem dX12_thrower_98 : decode cX12_thrower 98 = .ok (.iastore, 1) := by decide +kernel
theorem dX12_thrower_99 : decode cX12_thrower 99 = .ok (.aload_n 0, 1) := by decide +kernel
theorem dX12_thrower_100 : decode cX12_thrower 100 = .ok (.invokevirtual 78, 3) := by decide +kernel
theorem dX12_thrower_103 : decode cX12_thrower 103 = .ok (.iload_n 2, 1) := by decide +kernel
theorem dX12_thrower_104 : decode cX12_thrower 104 = .ok (.ireturn, 1) := by decide +kernel
theorem dX12_leastOf_0 : decode cX12_leastOf 0 = .ok (.iload_n 0, 1) := by decide +kernel
theorem dX12_leastOf_1 : decode cX12_leastOf 1 = .ok (.iconst 2, 1) := by decide +kernel
theorem dX12_leastOf_2 : decode cX12_leastOf 2 = .ok (.if_icmp .ge 8, 3) := by decide +kernel
theorem dX12_leastOf_5 : decode cX12_leastOf 5 = .ok (.bipush (-20), 2) := by decide +kernel
theorem dX12_leastOf_7 : decode cX12_leastOf 7 = .ok (.goto 13, 3) := by decide +kernel
theorem dX12_leastOf_10 : decode cX12_leastOf 10 = .ok (.iload_n 0, 1) := by decide +kernel
theorem dX12_leastOf_11 : decode cX12_leastOf 11 = .ok (.iconst 4, 1) := by decide +kernel
theorem dX12_leastOf_12 : decode cX12_leastOf 12 = .ok (.if_icmp .ne 7, 3) := by decide +kernel
theorem dX12_leastOf_15 : decode cX12_leastOf 15 = .ok (.iconst 1, 1) := by decide +kernel
theorem dX12_leastOf_16 : decode cX12_leastOf 16 = .ok (.goto 4, 3) := by decide +kernel
theorem dX12_leastOf_19 : decode cX12_leastOf 19 = .ok (.iconst 0, 1) := by decide +kernel
theorem dX12_leastOf_20 : decode cX12_leastOf 20 = .ok (.ireturn, 1) := by decide +kernel
theorem dX12_mostOf_0 : decode cX12_mostOf 0 = .ok (.iload_n 0, 1) := by decide +kernel
theorem dX12_mostOf_1 : decode cX12_mostOf 1 = .ok (.iconst 2, 1) := by decide +kernel
theorem dX12_mostOf_2 : decode cX12_mostOf 2 = .ok (.if_icmp .lt 8, 3) := by decide +kernel
theorem dX12_mostOf_5 : decode cX12_mostOf 5 = .ok (.iload_n 0, 1) := by decide +kernel
theorem dX12_mostOf_6 : decode cX12_mostOf 6 = .ok (.iconst 4, 1) := by decide +kernel
theorem dX12_mostOf_7 : decode cX12_mostOf 7 = .ok (.if_icmp .ne 6, 3) := by decide +kernel
theorem dX12_mostOf_10 : decode cX12_mostOf 10 = .ok (.bipush 20, 2) := by decide +kernel
theorem dX12_mostOf_12 : decode cX12_mostOf 12 = .ok (.ireturn, 1) := by decide +kernel
theorem dX12_mostOf_13 : decode cX12_mostOf 13 = .ok (.iload_n 0, 1) := by decide +kernel
theorem dX12_mostOf_14 : decode cX12_mostOf 14 = .ok (.iconst 4, 1) := by decide +kernel
theorem dX12_mostOf_15 : decode cX12_mostOf 15 = .ok (.if_icmp .ge 8, 3) := by decide +kernel
theorem dX12_mostOf_18 : decode cX12_mostOf 18 = .ok (.bipush 9, 2) := by decide +kernel
theorem dX12_mostOf_20 : decode cX12_mostOf 20 = .ok (.goto 16, 3) := by decide +kernel
theorem dX12_mostOf_23 : decode cX12_mostOf 23 = .ok (.iload_n 0, 1) := by decide +kernel
theorem dX12_mostOf_24 : decode cX12_mostOf 24 = .ok (.iconst 5, 1) := by decide +kernel
theorem dX12_mostOf_25 : decode cX12_mostOf 25 = .ok (.if_icmp .ne 8, 3) := by decide +kernel
theorem dX12_mostOf_28 : decode cX12_mostOf 28 = .ok (.bipush 99, 2) := by decide +kernel
theorem dX12_mostOf_30 : decode cX12_mostOf 30 = .ok (.goto 6, 3) := by decide +kernel
theorem dX12_mostOf_33 : decode cX12_mostOf 33 = .ok (.sipush 1000, 3) := by decide +kernel
theorem dX12_mostOf_36 : decode cX12_mostOf 36 = .ok (.ireturn, 1) := by decide +kernel
theorem dX12_set_0 : decode cX12_set 0 = .ok (.iload_n 1, 1) := by decide +kernel
theorem dX12_set_1 : decode cX12_set 1 = .ok (.iconst 0, 1) := by decide +kernel
theorem dX12_set_2 : decode cX12_set 2 = .ok (.bipush 6, 2) := by decide +kernel
theorem dX12_set_4 : decode cX12_set 4 = .ok (.invokestatic 71, 3) := by decide +kernel
theorem dX12_set_7 : decode cX12_set 7 = .ok (.ifCond .eq 31, 3) := by decide +kernel
theorem dX12_set_10 : decode cX12_set 10 = .ok (.iload_n 1, 1) := by decide +kernel
theorem dX12_set_11 : decode cX12_set 11 = .ok (.iconst 4, 1) := by decide +kernel
theorem dX12_set_12 : decode cX12_set 12 = .ok (.if_icmp .le 11, 3) := by decide +kernel
theorem dX12_set_15 : decode cX12_set 15 = .ok (.aload_n 0, 1) := by decide +kernel
theorem dX12_set_16 : decode cX12_set 16 = .ok (.iload_n 2, 1) := by decide +kernel
theorem dX12_set_17 : decode cX12_set 17 = .ok (.invokevirtual 87, 3) := by decide +kernel
theorem dX12_set_20 : decode cX12_set 20 = .ok (.ifCond .eq 18, 3) := by decide +kernel
theorem dX12_set_23 : decode cX12_set 23 = .ok (.iload_n 3, 1) := by decide +kernel
theorem dX12_set_24 : decode cX12_set 24 = .ok (.iload_n 1, 1) := by decide +kernel
theorem dX12_set_25 : decode cX12_set 25 = .ok (.invokestatic 91, 3) := by decide +kernel
theorem dX12_set_28 : decode cX12_set 28 = .ok (.iload_n 1, 1) := by decide +kernel
theorem dX12_set_29 : decode cX12_set 29 = .ok (.invokestatic 95, 3) := by decide +kernel
theorem dX12_set_32 : decode cX12_set 32 = .ok (.invokestatic 71, 3) := by decide +kernel
theorem dX12_set_35 : decode cX12_set 35 = .ok (.ifCond .ne 5, 3) := by decide +kernel
theorem dX12_set_38 : decode cX12_set 38 = .ok (.iconst 0, 1) := by decide +kernel
theorem dX12_set_39 : decode cX12_set 39 = .ok (.ireturn, 1) := by decide +kernel
theorem dX12_set_40 : decode cX12_set 40 = .ok (.iload_n 1, 1) := by decide +kernel
theorem dX12_set_41 : decode cX12_set 41 = .ok (.iconst 4, 1) := by decide +kernel
theorem dX12_set_42 : decode cX12_set 42 = .ok (.if_icmp .gt 16, 3) := by decide +kernel
theorem dX12_set_45 : decode cX12_set 45 = .ok (.aload_n 0, 1) := by decide +kernel
theorem dX12_set_46 : decode cX12_set 46 = .ok (.getfield 7, 3) := by decide +kernel
theorem dX12_set_49 : decode cX12_set 49 = .ok (.bipush 60, 2) := by decide +kernel
theorem dX12_set_51 : decode cX12_set 51 = .ok (.iload_n 1, 1) := by decide +kernel
theorem dX12_set_52 : decode cX12_set 52 = .ok (.iadd, 1) := by decide +kernel
theorem dX12_set_53 : decode cX12_set 53 = .ok (.iload_n 3, 1) := by decide +kernel
theorem dX12_set_54 : decode cX12_set 54 = .ok (.iastore, 1) := by decide +kernel
theorem dX12_set_55 : decode cX12_set 55 = .ok (.goto 19, 3) := by decide +kernel
theorem dX12_set_58 : decode cX12_set 58 = .ok (.aload_n 0, 1) := by decide +kernel
theorem dX12_set_59 : decode cX12_set 59 = .ok (.iload_n 2, 1) := by decide +kernel
theorem dX12_set_60 : decode cX12_set 60 = .ok (.iload_n 1, 1) := by decide +kernel
theorem dX12_set_61 : decode cX12_set 61 = .ok (.iconst 5, 1) := by decide +kernel
theorem dX12_set_62 : decode cX12_set 62 = .ok (.if_icmp .ne 7, 3) := by decide +kernel
theorem dX12_set_65 : decode cX12_set 65 = .ok (.iconst 0, 1) := by decide +kernel
theorem dX12_set_66 : decode cX12_set 66 = .ok (.goto 4, 3) := by decide +kernel
theorem dX12_set_69 : decode cX12_set 69 = .ok (.iconst 1, 1) := by decide +kernel
theorem dX12_set_70 : decode cX12_set 70 = .ok (.iload_n 3, 1) := by decide +kernel
theorem dX12_set_71 : decode cX12_set 71 = .ok (.invokevirtual 83, 3) := by decide +kernel
theorem dX12_set_74 : decode cX12_set 74 = .ok (.aload_n 0, 1) := by decide +kernel
theorem dX12_set_75 : decode cX12_set 75 = .ok (.invokevirtual 78, 3) := by decide +kernel
theorem dX12_set_78 : decode cX12_set 78 = .ok (.iconst 1, 1) := by decide +kernel
theorem dX12_set_79 : decode cX12_set 79 = .ok (.ireturn, 1) := by decide +kernel
theorem dX12_feed_0 : decode cX12_feed 0 = .ok (.aload_n 0, 1) := by decide +kernel
theorem dX12_feed_1 : decode cX12_feed 1 = .ok (.getfield 98, 3) := by decide +kernel
theorem dX12_feed_4 : decode cX12_feed 4 = .ok (.bipush 20, 2) := by decide +kernel
theorem dX12_feed_6 : decode cX12_feed 6 = .ok (.iadd, 1) := by decide +kernel
theorem dX12_feed_7 : decode cX12_feed 7 = .ok (.sipush 400, 3) := by decide +kernel
theorem dX12_feed_10 : decode cX12_feed 10 = .ok (.if_icmp .le 5, 3) := by decide +kernel
theorem dX12_feed_13 : decode cX12_feed 13 = .ok (.iconst (-1), 1) := by decide +kernel
theorem dX12_feed_14 : decode cX12_feed 14 = .ok (.ireturn, 1) := by decide +kernel
theorem dX12_feed_15 : decode cX12_feed 15 = .ok (.iconst 0, 1) := by decide +kernel
theorem dX12_feed_16 : decode cX12_feed 16 = .ok (.istore 6, 2) := by decide +kernel
theorem dX12_feed_18 : decode cX12_feed 18 = .ok (.iload 6, 2) := by decide +kernel
theorem dX12_feed_20 : decode cX12_feed 20 = .ok (.bipush 20, 2) := by decide +kernel
theorem dX12_feed_22 : decode cX12_feed 22 = .ok (.if_icmp .ge 93, 3) := by decide +kernel
theorem dX12_feed_25 : decode cX12_feed 25 = .ok (.iload 6, 2) := by decide +kernel
theorem dX12_feed_27 : decode cX12_feed 27 = .ok (.iconst 4, 1) := by decide +kernel
theorem dX12_feed_28 : decode cX12_feed 28 = .ok (.if_icmp .ge 7, 3) := by decide +kernel
theorem dX12_feed_31 : decode cX12_feed 31 = .ok (.iload_n 1, 1) := by decide +kernel
theorem dX12_feed_32 : decode cX12_feed 32 = .ok (.goto 39, 3) := by decide +kernel
theorem dX12_feed_35 : decode cX12_feed 35 = .ok (.iload 6, 2) := by decide +kernel
theorem dX12_feed_37 : decode cX12_feed 37 = .ok (.bipush 8, 2) := by decide +kernel
theorem dX12_feed_39 : decode cX12_feed 39 = .ok (.if_icmp .ge 7, 3) := by decide +kernel
theorem dX12_feed_42 : decode cX12_feed 42 = .ok (.iload_n 2, 1) := by decide +kernel
theorem dX12_feed_43 : decode cX12_feed 43 = .ok (.goto 28, 3) := by decide +kernel
theorem dX12_feed_46 : decode cX12_feed 46 = .ok (.iload 6, 2) := by decide +kernel
theorem dX12_feed_48 : decode cX12_feed 48 = .ok (.bipush 12, 2) := by decide +kernel
theorem dX12_feed_50 : decode cX12_feed 50 = .ok (.if_icmp .ge 7, 3) := by decide +kernel
theorem dX12_feed_53 : decode cX12_feed 53 = .ok (.iload_n 3, 1) := by decide +kernel
theorem dX12_feed_54 : decode cX12_feed 54 = .ok (.goto 17, 3) := by decide +kernel
theorem dX12_feed_57 : decode cX12_feed 57 = .ok (.iload 6, 2) := by decide +kernel
theorem dX12_feed_59 : decode cX12_feed 59 = .ok (.bipush 16, 2) := by decide +kernel
theorem dX12_feed_61 : decode cX12_feed 61 = .ok (.if_icmp .ge 8, 3) := by decide +kernel
theorem dX12_feed_64 : decode cX12_feed 64 = .ok (.iload 4, 2) := by decide +kernel
theorem dX12_feed_66 : decode cX12_feed 66 = .ok (.goto 5, 3) := by decide +kernel
theorem dX12_feed_69 : decode cX12_feed 69 = .ok (.iload 5, 2) := by decide +kernel
theorem dX12_feed_71 : decode cX12_feed 71 = .ok (.istore 7, 2) := by decide +kernel
theorem dX12_feed_73 : decode cX12_feed 73 = .ok (.aload_n 0, 1) := by decide +kernel
theorem dX12_feed_74 : decode cX12_feed 74 = .ok (.getfield 28, 3) := by decide +kernel
theorem dX12_feed_77 : decode cX12_feed 77 = .ok (.aload_n 0, 1) := by decide +kernel
theorem dX12_feed_78 : decode cX12_feed 78 = .ok (.getfield 98, 3) := by decide +kernel
theorem dX12_feed_81 : decode cX12_feed 81 = .ok (.iload 7, 2) := by decide +kernel
theorem dX12_feed_83 : decode cX12_feed 83 = .ok (.bipush 24, 2) := by decide +kernel
theorem dX12_feed_85 : decode cX12_feed 85 = .ok (.bipush 8, 2) := by decide +kernel
theorem dX12_feed_87 : decode cX12_feed 87 = .ok (.iload 6, 2) := by decide +kernel
theorem dX12_feed_89 : decode cX12_feed 89 = .ok (.iconst 4, 1) := by decide +kernel
theorem dX12_feed_90 : decode cX12_feed 90 = .ok (.irem, 1) := by decide +kernel
theorem dX12_feed_91 : decode cX12_feed 91 = .ok (.imul, 1) := by decide +kernel
theorem dX12_feed_92 : decode cX12_feed 92 = .ok (.isub, 1) := by decide +kernel
theorem dX12_feed_93 : decode cX12_feed 93 = .ok (.ishr, 1) := by decide +kernel
theorem dX12_feed_94 : decode cX12_feed 94 = .ok (.sipush 255, 3) := by decide +kernel
theorem dX12_feed_97 : decode cX12_feed 97 = .ok (.iand, 1) := by decide +kernel
theorem dX12_feed_98 : decode cX12_feed 98 = .ok (.iastore, 1) := by decide +kernel
theorem dX12_feed_99 : decode cX12_feed 99 = .ok (.aload_n 0, 1) := by decide +kernel
theorem dX12_feed_100 : decode cX12_feed 100 = .ok (.dup, 1) := by decide +kernel
theorem dX12_feed_101 : decode cX12_feed 101 = .ok (.getfield 98, 3) := by decide +kernel
theorem dX12_feed_104 : decode cX12_feed 104 = .ok (.iconst 1, 1) := by decide +kernel
theorem dX12_feed_105 : decode cX12_feed 105 = .ok (.iadd, 1) := by decide +kernel
theorem dX12_feed_106 : decode cX12_feed 106 = .ok (.putfield 98, 3) := by decide +kernel
theorem dX12_feed_109 : decode cX12_feed 109 = .ok (.iinc 6 1, 3) := by decide +kernel
theorem dX12_feed_112 : decode cX12_feed 112 = .ok (.goto (-94), 3) := by decide +kernel
theorem dX12_feed_115 : decode cX12_feed 115 = .ok (.aload_n 0, 1) := by decide +kernel
theorem dX12_feed_116 : decode cX12_feed 116 = .ok (.getfield 98, 3) := by decide +kernel
theorem dX12_feed_119 : decode cX12_feed 119 = .ok (.ireturn, 1) := by decide +kernel
theorem dX12_end_0 : decode cX12_end 0 = .ok (.iload_n 1, 1) := by decide +kernel
theorem dX12_end_1 : decode cX12_end 1 = .ok (.iconst 0, 1) := by decide +kernel
theorem dX12_end_2 : decode cX12_end 2 = .ok (.aload_n 0, 1) := by decide +kernel
theorem dX12_end_3 : decode cX12_end 3 = .ok (.getfield 98, 3) := by decide +kernel
theorem dX12_end_6 : decode cX12_end 6 = .ok (.invokestatic 71, 3) := by decide +kernel
theorem dX12_end_9 : decode cX12_end 9 = .ok (.ifCond .ne 5, 3) := by decide +kernel
theorem dX12_end_12 : decode cX12_end 12 = .ok (.iconst 0, 1) := by decide +kernel
theorem dX12_end_13 : decode cX12_end 13 = .ok (.ireturn, 1) := by decide +kernel
theorem dX12_end_14 : decode cX12_end 14 = .ok (.aload_n 0, 1) := by decide +kernel
theorem dX12_end_15 : decode cX12_end 15 = .ok (.iload_n 1, 1) := by decide +kernel
theorem dX12_end_16 : decode cX12_end 16 = .ok (.putfield 98, 3) := by decide +kernel
theorem dX12_end_19 : decode cX12_end 19 = .ok (.iconst 1, 1) := by decide +kernel
theorem dX12_end_20 : decode cX12_end 20 = .ok (.ireturn, 1) := by decide +kernel
theorem dX12_see_0 : decode cX12_see 0 = .ok (.iload_n 1, 1) := by decide +kernel
theorem dX12_see_1 : decode cX12_see 1 = .ok (.aload_n 0, 1) := by decide +kernel
theorem dX12_see_2 : decode cX12_see 2 = .ok (.getfield 98, 3) := by decide +kernel
theorem dX12_see_5 : decode cX12_see 5 = .ok (.if_icmp .ge 12, 3) := by decide +kernel
theorem dX12_see_8 : decode cX12_see 8 = .ok (.aload_n 0, 1) := by decide +kernel
theorem dX12_see_9 : decode cX12_see 9 = .ok (.getfield 28, 3) := by decide +kernel
theorem dX12_see_12 : decode cX12_see 12 = .ok (.iload_n 1, 1) := by decide +kernel
theorem dX12_see_13 : decode cX12_see 13 = .ok (.iaload, 1) := by decide +kernel
theorem dX12_see_14 : decode cX12_see 14 = .ok (.goto 4, 3) := by decide +kernel
theorem dX12_see_17 : decode cX12_see 17 = .ok (.iconst (-1), 1) := by decide +kernel
theorem dX12_see_18 : decode cX12_see 18 = .ok (.ireturn, 1) := by decide +kernel
theorem dX12_isLetter_0 : decode cX12_isLetter 0 = .ok (.iload_n 0, 1) := by decide +kernel
theorem dX12_isLetter_1 : decode cX12_isLetter 1 = .ok (.bipush 97, 2) := by decide +kernel
theorem dX12_isLetter_3 : decode cX12_isLetter 3 = .ok (.bipush 122, 2) := by decide +kernel
theorem dX12_isLetter_5 : decode cX12_isLetter 5 = .ok (.invokestatic 71, 3) := by decide +kernel
theorem dX12_isLetter_8 : decode cX12_isLetter 8 = .ok (.ifCond .ne 14, 3) := by decide +kernel
theorem dX12_isLetter_11 : decode cX12_isLetter 11 = .ok (.iload_n 0, 1) := by decide +kernel
theorem dX12_isLetter_12 : decode cX12_isLetter 12 = .ok (.bipush 65, 2) := by decide +kernel
theorem dX12_isLetter_14 : decode cX12_isLetter 14 = .ok (.bipush 90, 2) := by decide +kernel
theorem dX12_isLetter_16 : decode cX12_isLetter 16 = .ok (.invokestatic 71, 3) := by decide +kernel
theorem dX12_isLetter_19 : decode cX12_isLetter 19 = .ok (.ifCond .eq 7, 3) := by decide +kernel
theorem dX12_isLetter_22 : decode cX12_isLetter 22 = .ok (.iconst 1, 1) := by decide +kernel
theorem dX12_isLetter_23 : decode cX12_isLetter 23 = .ok (.goto 4, 3) := by decide +kernel
theorem dX12_isLetter_26 : decode cX12_isLetter 26 = .ok (.iconst 0, 1) := by decide +kernel
theorem dX12_isLetter_27 : decode cX12_isLetter 27 = .ok (.ireturn, 1) := by decide +kernel
theorem dX12_isDigit_0 : decode cX12_isDigit 0 = .ok (.iload_n 0, 1) := by decide +kernel
theorem dX12_isDigit_1 : decode cX12_isDigit 1 = .ok (.bipush 48, 2) := by decide +kernel
theorem dX12_isDigit_3 : decode cX12_isDigit 3 = .ok (.bipush 57, 2) := by decide +kernel
theorem dX12_isDigit_5 : decode cX12_isDigit 5 = .ok (.invokestatic 71, 3) := by decide +kernel
theorem dX12_isDigit_8 : decode cX12_isDigit 8 = .ok (.ireturn, 1) := by decide +kernel
theorem dX12_is_0 : decode cX12_is 0 = .ok (.aload_n 0, 1) := by decide +kernel
theorem dX12_is_1 : decode cX12_is 1 = .ok (.getfield 101, 3) := by decide +kernel
theorem dX12_is_4 : decode cX12_is 4 = .ok (.aload_n 0, 1) := by decide +kernel
theorem dX12_is_5 : decode cX12_is 5 = .ok (.getfield 104, 3) := by decide +kernel
theorem dX12_is_8 : decode cX12_is 8 = .ok (.isub, 1) := by decide +kernel
theorem dX12_is_9 : decode cX12_is 9 = .ok (.aload_n 1, 1) := by decide +kernel
theorem dX12_is_10 : decode cX12_is 10 = .ok (.invokevirtual 107, 3) := by decide +kernel
theorem dX12_is_13 : decode cX12_is 13 = .ok (.if_icmp .ne 7, 3) := by decide +kernel
theorem dX12_is_16 : decode cX12_is 16 = .ok (.iconst 1, 1) := by decide +kernel
theorem dX12_is_17 : decode cX12_is 17 = .ok (.goto 4, 3) := by decide +kernel
theorem dX12_is_20 : decode cX12_is 20 = .ok (.iconst 0, 1) := by decide +kernel
theorem dX12_is_21 : decode cX12_is 21 = .ok (.istore_n 2, 1) := by decide +kernel
theorem dX12_is_22 : decode cX12_is 22 = .ok (.iconst 0, 1) := by decide +kernel
theorem dX12_is_23 : decode cX12_is 23 = .ok (.istore_n 3, 1) := by decide +kernel
theorem dX12_is_24 : decode cX12_is 24 = .ok (.iload_n 3, 1) := by decide +kernel
theorem dX12_is_25 : decode cX12_is 25 = .ok (.aload_n 1, 1) := by decide +kernel
theorem dX12_is_26 : decode cX12_is 26 = .ok (.invokevirtual 107, 3) := by decide +kernel
theorem dX12_is_29 : decode cX12_is 29 = .ok (.if_icmp .ge 38, 3) := by decide +kernel
theorem dX12_is_32 : decode cX12_is 32 = .ok (.iload_n 2, 1) := by decide +kernel
theorem dX12_is_33 : decode cX12_is 33 = .ok (.ifCond .eq 34, 3) := by decide +kernel
theorem dX12_is_36 : decode cX12_is 36 = .ok (.aload_n 0, 1) := by decide +kernel
theorem dX12_is_37 : decode cX12_is 37 = .ok (.getfield 28, 3) := by decide +kernel
theorem dX12_is_40 : decode cX12_is 40 = .ok (.aload_n 0, 1) := by decide +kernel
theorem dX12_is_41 : decode cX12_is 41 = .ok (.getfield 104, 3) := by decide +kernel
theorem dX12_is_44 : decode cX12_is 44 = .ok (.iload_n 3, 1) := by decide +kernel
theorem dX12_is_45 : decode cX12_is 45 = .ok (.iadd, 1) := by decide +kernel
theorem dX12_is_46 : decode cX12_is 46 = .ok (.iaload, 1) := by decide +kernel
theorem dX12_is_47 : decode cX12_is 47 = .ok (.aload_n 1, 1) := by decide +kernel
theorem dX12_is_48 : decode cX12_is 48 = .ok (.iload_n 3, 1) := by decide +kernel
theorem dX12_is_49 : decode cX12_is 49 = .ok (.invokevirtual 113, 3) := by decide +kernel
theorem dX12_is_52 : decode cX12_is 52 = .ok (.if_icmp .ne 7, 3) := by decide +kernel
theorem dX12_is_55 : decode cX12_is 55 = .ok (.iconst 1, 1) := by decide +kernel
theorem dX12_is_56 : decode cX12_is 56 = .ok (.goto 4, 3) := by decide +kernel
theorem dX12_is_59 : decode cX12_is 59 = .ok (.iconst 0, 1) := by decide +kernel
theorem dX12_is_60 : decode cX12_is 60 = .ok (.istore_n 2, 1) := by decide +kernel
theorem dX12_is_61 : decode cX12_is 61 = .ok (.iinc 3 1, 3) := by decide +kernel
theorem dX12_is_64 : decode cX12_is 64 = .ok (.goto (-40), 3) := by decide +kernel
theorem dX12_is_67 : decode cX12_is 67 = .ok (.iload_n 2, 1) := by decide +kernel
theorem dX12_is_68 : decode cX12_is 68 = .ok (.ireturn, 1) := by decide +kernel
theorem dX12_flightWord_0 : decode cX12_flightWord 0 = .ok (.aload_n 0, 1) := by decide +kernel
theorem dX12_flightWord_1 : decode cX12_flightWord 1 = .ok (.ldc 117, 2) := by decide +kernel
theorem dX12_flightWord_3 : decode cX12_flightWord 3 = .ok (.invokevirtual 119, 3) := by decide +kernel
theorem dX12_flightWord_6 : decode cX12_flightWord 6 = .ok (.ifCond .eq 6, 3) := by decide +kernel
theorem dX12_flightWord_9 : decode cX12_flightWord 9 = .ok (.bipush 20, 2) := by decide +kernel
theorem dX12_flightWord_11 : decode cX12_flightWord 11 = .ok (.ireturn, 1) := by decide +kernel
theorem dX12_flightWord_12 : decode cX12_flightWord 12 = .ok (.aload_n 0, 1) := by decide +kernel
theorem dX12_flightWord_13 : decode cX12_flightWord 13 = .ok (.ldc 123, 2) := by decide +kernel
theorem dX12_flightWord_15 : decode cX12_flightWord 15 = .ok (.invokevirtual 119, 3) := by decide +kernel
theorem dX12_flightWord_18 : decode cX12_flightWord 18 = .ok (.ifCond .eq 6, 3) := by decide +kernel
theorem dX12_flightWord_21 : decode cX12_flightWord 21 = .ok (.bipush 21, 2) := by decide +kernel
theorem dX12_flightWord_23 : decode cX12_flightWord 23 = .ok (.ireturn, 1) := by decide +kernel
theorem dX12_flightWord_24 : decode cX12_flightWord 24 = .ok (.aload_n 0, 1) := by decide +kernel
theorem dX12_flightWord_25 : decode cX12_flightWord 25 = .ok (.ldc 125, 2) := by decide +kernel
theorem dX12_flightWord_27 : decode cX12_flightWord 27 = .ok (.invokevirtual 119, 3) := by decide +kernel
theorem dX12_flightWord_30 : decode cX12_flightWord 30 = .ok (.ifCond .eq 6, 3) := by decide +kernel
theorem dX12_flightWord_33 : decode cX12_flightWord 33 = .ok (.bipush 22, 2) := by decide +kernel
theorem dX12_flightWord_35 : decode cX12_flightWord 35 = .ok (.ireturn, 1) := by decide +kernel
theorem dX12_flightWord_36 : decode cX12_flightWord 36 = .ok (.aload_n 0, 1) := by decide +kernel
theorem dX12_flightWord_37 : decode cX12_flightWord 37 = .ok (.ldc 127, 2) := by decide +kernel
theorem dX12_flightWord_39 : decode cX12_flightWord 39 = .ok (.invokevirtual 119, 3) := by decide +kernel
theorem dX12_flightWord_42 : decode cX12_flightWord 42 = .ok (.ifCond .eq 6, 3) := by decide +kernel
theorem dX12_flightWord_45 : decode cX12_flightWord 45 = .ok (.bipush 23, 2) := by decide +kernel
theorem dX12_flightWord_47 : decode cX12_flightWord 47 = .ok (.ireturn, 1) := by decide +kernel
theorem dX12_flightWord_48 : decode cX12_flightWord 48 = .ok (.aload_n 0, 1) := by decide +kernel
theorem dX12_flightWord_49 : decode cX12_flightWord 49 = .ok (.ldc 129, 2) := by decide +kernel
theorem dX12_flightWord_51 : decode cX12_flightWord 51 = .ok (.invokevirtual 119, 3) := by decide +kernel
theorem dX12_flightWord_54 : decode cX12_flightWord 54 = .ok (.ifCond .eq 6, 3) := by decide +kernel
theorem dX12_flightWord_57 : decode cX12_flightWord 57 = .ok (.bipush 41, 2) := by decide +kernel
theorem dX12_flightWord_59 : decode cX12_flightWord 59 = .ok (.ireturn, 1) := by decide +kernel
theorem dX12_flightWord_60 : decode cX12_flightWord 60 = .ok (.aload_n 0, 1) := by decide +kernel
theorem dX12_flightWord_61 : decode cX12_flightWord 61 = .ok (.ldc 131, 2) := by decide +kernel
theorem dX12_flightWord_63 : decode cX12_flightWord 63 = .ok (.invokevirtual 119, 3) := by decide +kernel
theorem dX12_flightWord_66 : decode cX12_flightWord 66 = .ok (.ifCond .eq 6, 3) := by decide +kernel
theorem dX12_flightWord_69 : decode cX12_flightWord 69 = .ok (.bipush 42, 2) := by decide +kernel
theorem dX12_flightWord_71 : decode cX12_flightWord 71 = .ok (.ireturn, 1) := by decide +kernel
theorem dX12_flightWord_72 : decode cX12_flightWord 72 = .ok (.aload_n 0, 1) := by decide +kernel
theorem dX12_flightWord_73 : decode cX12_flightWord 73 = .ok (.ldc 133, 2) := by decide +kernel
theorem dX12_flightWord_75 : decode cX12_flightWord 75 = .ok (.invokevirtual 119, 3) := by decide +kernel
theorem dX12_flightWord_78 : decode cX12_flightWord 78 = .ok (.ifCond .eq 6, 3) := by decide +kernel
theorem dX12_flightWord_81 : decode cX12_flightWord 81 = .ok (.bipush 43, 2) := by decide +kernel
theorem dX12_flightWord_83 : decode cX12_flightWord 83 = .ok (.ireturn, 1) := by decide +kernel
theorem dX12_flightWord_84 : decode cX12_flightWord 84 = .ok (.aload_n 0, 1) := by decide +kernel
theorem dX12_flightWord_85 : decode cX12_flightWord 85 = .ok (.ldc 135, 2) := by decide +kernel
theorem dX12_flightWord_87 : decode cX12_flightWord 87 = .ok (.invokevirtual 119, 3) := by decide +kernel
theorem dX12_flightWord_90 : decode cX12_flightWord 90 = .ok (.ifCond .eq 6, 3) := by decide +kernel
theorem dX12_flightWord_93 : decode cX12_flightWord 93 = .ok (.bipush 44, 2) := by decide +kernel
theorem dX12_flightWord_95 : decode cX12_flightWord 95 = .ok (.ireturn, 1) := by decide +kernel
theorem dX12_flightWord_96 : decode cX12_flightWord 96 = .ok (.aload_n 0, 1) := by decide +kernel
theorem dX12_flightWord_97 : decode cX12_flightWord 97 = .ok (.ldc 137, 2) := by decide +kernel
theorem dX12_flightWord_99 : decode cX12_flightWord 99 = .ok (.invokevirtual 119, 3) := by decide +kernel
theorem dX12_flightWord_102 : decode cX12_flightWord 102 = .ok (.ifCond .eq 6, 3) := by decide +kernel
theorem dX12_flightWord_105 : decode cX12_flightWord 105 = .ok (.bipush 45, 2) := by decide +kernel
theorem dX12_flightWord_107 : decode cX12_flightWord 107 = .ok (.ireturn, 1) := by decide +kernel
theorem dX12_flightWord_108 : decode cX12_flightWord 108 = .ok (.aload_n 0, 1) := by decide +kernel
theorem dX12_flightWord_109 : decode cX12_flightWord 109 = .ok (.ldc 139, 2) := by decide +kernel
theorem dX12_flightWord_111 : decode cX12_flightWord 111 = .ok (.invokevirtual 119, 3) := by decide +kernel
theorem dX12_flightWord_114 : decode cX12_flightWord 114 = .ok (.ifCond .eq 6, 3) := by decide +kernel
theorem dX12_flightWord_117 : decode cX12_flightWord 117 = .ok (.bipush 46, 2) := by decide +kernel
theorem dX12_flightWord_119 : decode cX12_flightWord 119 = .ok (.ireturn, 1) := by decide +kernel
theorem dX12_flightWord_120 : decode cX12_flightWord 120 = .ok (.aload_n 0, 1) := by decide +kernel
theorem dX12_flightWord_121 : decode cX12_flightWord 121 = .ok (.ldc 141, 2) := by decide +kernel
theorem dX12_flightWord_123 : decode cX12_flightWord 123 = .ok (.invokevirtual 119, 3) := by decide +kernel
theorem dX12_flightWord_126 : decode cX12_flightWord 126 = .ok (.ifCond .eq 6, 3) := by decide +kernel
theorem dX12_flightWord_129 : decode cX12_flightWord 129 = .ok (.bipush 47, 2) := by decide +kernel
theorem dX12_flightWord_131 : decode cX12_flightWord 131 = .ok (.ireturn, 1) := by decide +kernel
theorem dX12_flightWord_132 : decode cX12_flightWord 132 = .ok (.aload_n 0, 1) := by decide +kernel
theorem dX12_flightWord_133 : decode cX12_flightWord 133 = .ok (.ldc 143, 2) := by decide +kernel
theorem dX12_flightWord_135 : decode cX12_flightWord 135 = .ok (.invokevirtual 119, 3) := by decide +kernel
theorem dX12_flightWord_138 : decode cX12_flightWord 138 = .ok (.ifCond .eq 6, 3) := by decide +kernel
theorem dX12_flightWord_141 : decode cX12_flightWord 141 = .ok (.bipush 48, 2) := by decide +kernel
theorem dX12_flightWord_143 : decode cX12_flightWord 143 = .ok (.ireturn, 1) := by decide +kernel
theorem dX12_flightWord_144 : decode cX12_flightWord 144 = .ok (.aload_n 0, 1) := by decide +kernel
theorem dX12_flightWord_145 : decode cX12_flightWord 145 = .ok (.ldc 145, 2) := by decide +kernel
theorem dX12_flightWord_147 : decode cX12_flightWord 147 = .ok (.invokevirtual 119, 3) := by decide +kernel
theorem dX12_flightWord_150 : decode cX12_flightWord 150 = .ok (.ifCond .eq 8, 3) := by decide +kernel
theorem dX12_flightWord_153 : decode cX12_flightWord 153 = .ok (.bipush 49, 2) := by decide +kernel
theorem dX12_flightWord_155 : decode cX12_flightWord 155 = .ok (.goto 4, 3) := by decide +kernel
theorem dX12_flightWord_158 : decode cX12_flightWord 158 = .ok (.iconst 1, 1) := by decide +kernel
theorem dX12_flightWord_159 : decode cX12_flightWord 159 = .ok (.ireturn, 1) := by decide +kernel
theorem dX12_armWord_0 : decode cX12_armWord 0 = .ok (.aload_n 0, 1) := by decide +kernel
theorem dX12_armWord_1 : decode cX12_armWord 1 = .ok (.ldc 147, 2) := by decide +kernel
theorem dX12_armWord_3 : decode cX12_armWord 3 = .ok (.invokevirtual 119, 3) := by decide +kernel
theorem dX12_armWord_6 : decode cX12_armWord 6 = .ok (.ifCond .eq 6, 3) := by decide +kernel
theorem dX12_armWord_9 : decode cX12_armWord 9 = .ok (.bipush 24, 2) := by decide +kernel
theorem dX12_armWord_11 : decode cX12_armWord 11 = .ok (.ireturn, 1) := by decide +kernel
theorem dX12_armWord_12 : decode cX12_armWord 12 = .ok (.aload_n 0, 1) := by decide +kernel
theorem dX12_armWord_13 : decode cX12_armWord 13 = .ok (.ldc 149, 2) := by decide +kernel
theorem dX12_armWord_15 : decode cX12_armWord 15 = .ok (.invokevirtual 119, 3) := by decide +kernel
theorem dX12_armWord_18 : decode cX12_armWord 18 = .ok (.ifCond .eq 6, 3) := by decide +kernel
theorem dX12_armWord_21 : decode cX12_armWord 21 = .ok (.bipush 25, 2) := by decide +kernel
theorem dX12_armWord_23 : decode cX12_armWord 23 = .ok (.ireturn, 1) := by decide +kernel
theorem dX12_armWord_24 : decode cX12_armWord 24 = .ok (.aload_n 0, 1) := by decide +kernel
theorem dX12_armWord_25 : decode cX12_armWord 25 = .ok (.ldc 151, 2) := by decide +kernel
theorem dX12_armWord_27 : decode cX12_armWord 27 = .ok (.invokevirtual 119, 3) := by decide +kernel
theorem dX12_armWord_30 : decode cX12_armWord 30 = .ok (.ifCond .eq 6, 3) := by decide +kernel
theorem dX12_armWord_33 : decode cX12_armWord 33 = .ok (.bipush 26, 2) := by decide +kernel
theorem dX12_armWord_35 : decode cX12_armWord 35 = .ok (.ireturn, 1) := by decide +kernel
theorem dX12_armWord_36 : decode cX12_armWord 36 = .ok (.aload_n 0, 1) := by decide +kernel
theorem dX12_armWord_37 : decode cX12_armWord 37 = .ok (.ldc 153, 2) := by decide +kernel
theorem dX12_armWord_39 : decode cX12_armWord 39 = .ok (.invokevirtual 119, 3) := by decide +kernel
theorem dX12_armWord_42 : decode cX12_armWord 42 = .ok (.ifCond .eq 6, 3) := by decide +kernel
theorem dX12_armWord_45 : decode cX12_armWord 45 = .ok (.bipush 50, 2) := by decide +kernel
theorem dX12_armWord_47 : decode cX12_armWord 47 = .ok (.ireturn, 1) := by decide +kernel
theorem dX12_armWord_48 : decode cX12_armWord 48 = .ok (.aload_n 0, 1) := by decide +kernel
theorem dX12_armWord_49 : decode cX12_armWord 49 = .ok (.ldc 155, 2) := by decide +kernel
theorem dX12_armWord_51 : decode cX12_armWord 51 = .ok (.invokevirtual 119, 3) := by decide +kernel
theorem dX12_armWord_54 : decode cX12_armWord 54 = .ok (.ifCond .eq 6, 3) := by decide +kernel
theorem dX12_armWord_57 : decode cX12_armWord 57 = .ok (.bipush 51, 2) := by decide +kernel
theorem dX12_armWord_59 : decode cX12_armWord 59 = .ok (.ireturn, 1) := by decide +kernel
theorem dX12_armWord_60 : decode cX12_armWord 60 = .ok (.aload_n 0, 1) := by decide +kernel
theorem dX12_armWord_61 : decode cX12_armWord 61 = .ok (.ldc 157, 2) := by decide +kernel
theorem dX12_armWord_63 : decode cX12_armWord 63 = .ok (.invokevirtual 119, 3) := by decide +kernel
theorem dX12_armWord_66 : decode cX12_armWord 66 = .ok (.ifCond .eq 6, 3) := by decide +kernel
theorem dX12_armWord_69 : decode cX12_armWord 69 = .ok (.bipush 52, 2) := by decide +kernel
theorem dX12_armWord_71 : decode cX12_armWord 71 = .ok (.ireturn, 1) := by decide +kernel
theorem dX12_armWord_72 : decode cX12_armWord 72 = .ok (.aload_n 0, 1) := by decide +kernel
theorem dX12_armWord_73 : decode cX12_armWord 73 = .ok (.ldc 159, 2) := by decide +kernel
theorem dX12_armWord_75 : decode cX12_armWord 75 = .ok (.invokevirtual 119, 3) := by decide +kernel
theorem dX12_armWord_78 : decode cX12_armWord 78 = .ok (.ifCond .eq 6, 3) := by decide +kernel
theorem dX12_armWord_81 : decode cX12_armWord 81 = .ok (.bipush 53, 2) := by decide +kernel
theorem dX12_armWord_83 : decode cX12_armWord 83 = .ok (.ireturn, 1) := by decide +kernel
theorem dX12_armWord_84 : decode cX12_armWord 84 = .ok (.aload_n 0, 1) := by decide +kernel
theorem dX12_armWord_85 : decode cX12_armWord 85 = .ok (.ldc 161, 2) := by decide +kernel
theorem dX12_armWord_87 : decode cX12_armWord 87 = .ok (.invokevirtual 119, 3) := by decide +kernel
theorem dX12_armWord_90 : decode cX12_armWord 90 = .ok (.ifCond .eq 6, 3) := by decide +kernel
theorem dX12_armWord_93 : decode cX12_armWord 93 = .ok (.bipush 54, 2) := by decide +kernel
theorem dX12_armWord_95 : decode cX12_armWord 95 = .ok (.ireturn, 1) := by decide +kernel
theorem dX12_armWord_96 : decode cX12_armWord 96 = .ok (.aload_n 0, 1) := by decide +kernel
theorem dX12_armWord_97 : decode cX12_armWord 97 = .ok (.ldc 163, 2) := by decide +kernel
theorem dX12_armWord_99 : decode cX12_armWord 99 = .ok (.invokevirtual 119, 3) := by decide +kernel
theorem dX12_armWord_102 : decode cX12_armWord 102 = .ok (.ifCond .eq 6, 3) := by decide +kernel
theorem dX12_armWord_105 : decode cX12_armWord 105 = .ok (.bipush 55, 2) := by decide +kernel
theorem dX12_armWord_107 : decode cX12_armWord 107 = .ok (.ireturn, 1) := by decide +kernel
theorem dX12_armWord_108 : decode cX12_armWord 108 = .ok (.aload_n 0, 1) := by decide +kernel
theorem dX12_armWord_109 : decode cX12_armWord 109 = .ok (.ldc 165, 2) := by decide +kernel
theorem dX12_armWord_111 : decode cX12_armWord 111 = .ok (.invokevirtual 119, 3) := by decide +kernel
theorem dX12_armWord_114 : decode cX12_armWord 114 = .ok (.ifCond .eq 6, 3) := by decide +kernel
theorem dX12_armWord_117 : decode cX12_armWord 117 = .ok (.bipush 56, 2) := by decide +kernel
theorem dX12_armWord_119 : decode cX12_armWord 119 = .ok (.ireturn, 1) := by decide +kernel
theorem dX12_armWord_120 : decode cX12_armWord 120 = .ok (.aload_n 0, 1) := by decide +kernel
theorem dX12_armWord_121 : decode cX12_armWord 121 = .ok (.ldc 167, 2) := by decide +kernel
theorem dX12_armWord_123 : decode cX12_armWord 123 = .ok (.invokevirtual 119, 3) := by decide +kernel
theorem dX12_armWord_126 : decode cX12_armWord 126 = .ok (.ifCond .eq 8, 3) := by decide +kernel
theorem dX12_armWord_129 : decode cX12_armWord 129 = .ok (.bipush 57, 2) := by decide +kernel
theorem dX12_armWord_131 : decode cX12_armWord 131 = .ok (.goto 4, 3) := by decide +kernel
theorem dX12_armWord_134 : decode cX12_armWord 134 = .ok (.iconst 1, 1) := by decide +kernel
theorem dX12_armWord_135 : decode cX12_armWord 135 = .ok (.ireturn, 1) := by decide +kernel
theorem dX12_trainWord_0 : decode cX12_trainWord 0 = .ok (.aload_n 0, 1) := by decide +kernel
theorem dX12_trainWord_1 : decode cX12_trainWord 1 = .ok (.ldc 169, 2) := by decide +kernel
theorem dX12_trainWord_3 : decode cX12_trainWord 3 = .ok (.invokevirtual 119, 3) := by decide +kernel
theorem dX12_trainWord_6 : decode cX12_trainWord 6 = .ok (.ifCond .eq 6, 3) := by decide +kernel
theorem dX12_trainWord_9 : decode cX12_trainWord 9 = .ok (.bipush 27, 2) := by decide +kernel
theorem dX12_trainWord_11 : decode cX12_trainWord 11 = .ok (.ireturn, 1) := by decide +kernel
theorem dX12_trainWord_12 : decode cX12_trainWord 12 = .ok (.aload_n 0, 1) := by decide +kernel
theorem dX12_trainWord_13 : decode cX12_trainWord 13 = .ok (.ldc 171, 2) := by decide +kernel
theorem dX12_trainWord_15 : decode cX12_trainWord 15 = .ok (.invokevirtual 119, 3) := by decide +kernel
theorem dX12_trainWord_18 : decode cX12_trainWord 18 = .ok (.ifCond .eq 6, 3) := by decide +kernel
theorem dX12_trainWord_21 : decode cX12_trainWord 21 = .ok (.bipush 28, 2) := by decide +kernel
theorem dX12_trainWord_23 : decode cX12_trainWord 23 = .ok (.ireturn, 1) := by decide +kernel
theorem dX12_trainWord_24 : decode cX12_trainWord 24 = .ok (.aload_n 0, 1) := by decide +kernel
theorem dX12_trainWord_25 : decode cX12_trainWord 25 = .ok (.ldc 173, 2) := by decide +kernel
theorem dX12_trainWord_27 : decode cX12_trainWord 27 = .ok (.invokevirtual 119, 3) := by decide +kernel
theorem dX12_trainWord_30 : decode cX12_trainWord 30 = .ok (.ifCond .eq 6, 3) := by decide +kernel
theorem dX12_trainWord_33 : decode cX12_trainWord 33 = .ok (.bipush 58, 2) := by decide +kernel
theorem dX12_trainWord_35 : decode cX12_trainWord 35 = .ok (.ireturn, 1) := by decide +kernel
theorem dX12_trainWord_36 : decode cX12_trainWord 36 = .ok (.aload_n 0, 1) := by decide +kernel
theorem dX12_trainWord_37 : decode cX12_trainWord 37 = .ok (.ldc 161, 2) := by decide +kernel
theorem dX12_trainWord_39 : decode cX12_trainWord 39 = .ok (.invokevirtual 119, 3) := by decide +kernel
theorem dX12_trainWord_42 : decode cX12_trainWord 42 = .ok (.ifCond .eq 6, 3) := by decide +kernel
theorem dX12_trainWord_45 : decode cX12_trainWord 45 = .ok (.bipush 54, 2) := by decide +kernel
theorem dX12_trainWord_47 : decode cX12_trainWord 47 = .ok (.ireturn, 1) := by decide +kernel
theorem dX12_trainWord_48 : decode cX12_trainWord 48 = .ok (.aload_n 0, 1) := by decide +kernel
theorem dX12_trainWord_49 : decode cX12_trainWord 49 = .ok (.ldc 159, 2) := by decide +kernel
theorem dX12_trainWord_51 : decode cX12_trainWord 51 = .ok (.invokevirtual 119, 3) := by decide +kernel
theorem dX12_trainWord_54 : decode cX12_trainWord 54 = .ok (.ifCond .eq 6, 3) := by decide +kernel
theorem dX12_trainWord_57 : decode cX12_trainWord 57 = .ok (.bipush 53, 2) := by decide +kernel
theorem dX12_trainWord_59 : decode cX12_trainWord 59 = .ok (.ireturn, 1) := by decide +kernel
theorem dX12_trainWord_60 : decode cX12_trainWord 60 = .ok (.aload_n 0, 1) := by decide +kernel
theorem dX12_trainWord_61 : decode cX12_trainWord 61 = .ok (.ldc 175, 2) := by decide +kernel
theorem dX12_trainWord_63 : decode cX12_trainWord 63 = .ok (.invokevirtual 119, 3) := by decide +kernel
theorem dX12_trainWord_66 : decode cX12_trainWord 66 = .ok (.ifCond .eq 8, 3) := by decide +kernel
theorem dX12_trainWord_69 : decode cX12_trainWord 69 = .ok (.bipush 59, 2) := by decide +kernel
theorem dX12_trainWord_71 : decode cX12_trainWord 71 = .ok (.goto 4, 3) := by decide +kernel
theorem dX12_trainWord_74 : decode cX12_trainWord 74 = .ok (.iconst 1, 1) := by decide +kernel
theorem dX12_trainWord_75 : decode cX12_trainWord 75 = .ok (.ireturn, 1) := by decide +kernel
theorem dX12_planWord_0 : decode cX12_planWord 0 = .ok (.aload_n 0, 1) := by decide +kernel
theorem dX12_planWord_1 : decode cX12_planWord 1 = .ok (.ldc 177, 2) := by decide +kernel
theorem dX12_planWord_3 : decode cX12_planWord 3 = .ok (.invokevirtual 119, 3) := by decide +kernel
theorem dX12_planWord_6 : decode cX12_planWord 6 = .ok (.ifCond .eq 6, 3) := by decide +kernel
theorem dX12_planWord_9 : decode cX12_planWord 9 = .ok (.bipush 7, 2) := by decide +kernel
theorem dX12_planWord_11 : decode cX12_planWord 11 = .ok (.ireturn, 1) := by decide +kernel
theorem dX12_planWord_12 : decode cX12_planWord 12 = .ok (.aload_n 0, 1) := by decide +kernel
theorem dX12_planWord_13 : decode cX12_planWord 13 = .ok (.ldc 179, 2) := by decide +kernel
theorem dX12_planWord_15 : decode cX12_planWord 15 = .ok (.invokevirtual 119, 3) := by decide +kernel
theorem dX12_planWord_18 : decode cX12_planWord 18 = .ok (.ifCond .eq 6, 3) := by decide +kernel
theorem dX12_planWord_21 : decode cX12_planWord 21 = .ok (.bipush 8, 2) := by decide +kernel
theorem dX12_planWord_23 : decode cX12_planWord 23 = .ok (.ireturn, 1) := by decide +kernel
theorem dX12_planWord_24 : decode cX12_planWord 24 = .ok (.aload_n 0, 1) := by decide +kernel
theorem dX12_planWord_25 : decode cX12_planWord 25 = .ok (.ldc 181, 2) := by decide +kernel
theorem dX12_planWord_27 : decode cX12_planWord 27 = .ok (.invokevirtual 119, 3) := by decide +kernel
theorem dX12_planWord_30 : decode cX12_planWord 30 = .ok (.ifCond .eq 6, 3) := by decide +kernel
theorem dX12_planWord_33 : decode cX12_planWord 33 = .ok (.bipush 9, 2) := by decide +kernel
theorem dX12_planWord_35 : decode cX12_planWord 35 = .ok (.ireturn, 1) := by decide +kernel
theorem dX12_planWord_36 : decode cX12_planWord 36 = .ok (.aload_n 0, 1) := by decide +kernel
theorem dX12_planWord_37 : decode cX12_planWord 37 = .ok (.ldc 182, 2) := by decide +kernel
theorem dX12_planWord_39 : decode cX12_planWord 39 = .ok (.invokevirtual 119, 3) := by decide +kernel
theorem dX12_planWord_42 : decode cX12_planWord 42 = .ok (.ifCond .eq 6, 3) := by decide +kernel
theorem dX12_planWord_45 : decode cX12_planWord 45 = .ok (.bipush 10, 2) := by decide +kernel
theorem dX12_planWord_47 : decode cX12_planWord 47 = .ok (.ireturn, 1) := by decide +kernel
theorem dX12_planWord_48 : decode cX12_planWord 48 = .ok (.aload_n 0, 1) := by decide +kernel
theorem dX12_planWord_49 : decode cX12_planWord 49 = .ok (.ldc 155, 2) := by decide +kernel
theorem dX12_planWord_51 : decode cX12_planWord 51 = .ok (.invokevirtual 119, 3) := by decide +kernel
theorem dX12_planWord_54 : decode cX12_planWord 54 = .ok (.ifCond .eq 6, 3) := by decide +kernel
theorem dX12_planWord_57 : decode cX12_planWord 57 = .ok (.bipush 11, 2) := by decide +kernel
theorem dX12_planWord_59 : decode cX12_planWord 59 = .ok (.ireturn, 1) := by decide +kernel
theorem dX12_planWord_60 : decode cX12_planWord 60 = .ok (.aload_n 0, 1) := by decide +kernel
theorem dX12_planWord_61 : decode cX12_planWord 61 = .ok (.ldc 184, 2) := by decide +kernel
theorem dX12_planWord_63 : decode cX12_planWord 63 = .ok (.invokevirtual 119, 3) := by decide +kernel
theorem dX12_planWord_66 : decode cX12_planWord 66 = .ok (.ifCond .eq 8, 3) := by decide +kernel
theorem dX12_planWord_69 : decode cX12_planWord 69 = .ok (.bipush 12, 2) := by decide +kernel
theorem dX12_planWord_71 : decode cX12_planWord 71 = .ok (.goto 4, 3) := by decide +kernel
theorem dX12_planWord_74 : decode cX12_planWord 74 = .ok (.iconst 1, 1) := by decide +kernel
theorem dX12_planWord_75 : decode cX12_planWord 75 = .ok (.ireturn, 1) := by decide +kernel
theorem dX12_word_0 : decode cX12_word 0 = .ok (.aload_n 0, 1) := by decide +kernel
theorem dX12_word_1 : decode cX12_word 1 = .ok (.getfield 186, 3) := by decide +kernel
theorem dX12_word_4 : decode cX12_word 4 = .ok (.iconst 2, 1) := by decide +kernel
theorem dX12_word_5 : decode cX12_word 5 = .ok (.if_icmp .ne 8, 3) := by decide +kernel
theorem dX12_word_8 : decode cX12_word 8 = .ok (.aload_n 0, 1) := by decide +kernel
theorem dX12_word_9 : decode cX12_word 9 = .ok (.invokevirtual 189, 3) := by decide +kernel
theorem dX12_word_12 : decode cX12_word 12 = .ok (.ireturn, 1) := by decide +kernel
theorem dX12_word_13 : decode cX12_word 13 = .ok (.aload_n 0, 1) := by decide +kernel
theorem dX12_word_14 : decode cX12_word 14 = .ok (.ldc 192, 2) := by decide +kernel
theorem dX12_word_16 : decode cX12_word 16 = .ok (.invokevirtual 119, 3) := by decide +kernel
theorem dX12_word_19 : decode cX12_word 19 = .ok (.ifCond .eq 5, 3) := by decide +kernel
theorem dX12_word_22 : decode cX12_word 22 = .ok (.iconst 3, 1) := by decide +kernel
theorem dX12_word_23 : decode cX12_word 23 = .ok (.ireturn, 1) := by decide +kernel
theorem dX12_word_24 : decode cX12_word 24 = .ok (.aload_n 0, 1) := by decide +kernel
theorem dX12_word_25 : decode cX12_word 25 = .ok (.ldc 194, 2) := by decide +kernel
theorem dX12_word_27 : decode cX12_word 27 = .ok (.invokevirtual 119, 3) := by decide +kernel
theorem dX12_word_30 : decode cX12_word 30 = .ok (.ifCond .eq 5, 3) := by decide +kernel
theorem dX12_word_33 : decode cX12_word 33 = .ok (.iconst 4, 1) := by decide +kernel
theorem dX12_word_34 : decode cX12_word 34 = .ok (.ireturn, 1) := by decide +kernel
theorem dX12_word_35 : decode cX12_word 35 = .ok (.aload_n 0, 1) := by decide +kernel
theorem dX12_word_36 : decode cX12_word 36 = .ok (.ldc 196, 2) := by decide +kernel
theorem dX12_word_38 : decode cX12_word 38 = .ok (.invokevirtual 119, 3) := by decide +kernel
theorem dX12_word_41 : decode cX12_word 41 = .ok (.ifCond .eq 5, 3) := by decide +kernel
theorem dX12_word_44 : decode cX12_word 44 = .ok (.iconst 5, 1) := by decide +kernel
theorem dX12_word_45 : decode cX12_word 45 = .ok (.ireturn, 1) := by decide +kernel
theorem dX12_word_46 : decode cX12_word 46 = .ok (.aload_n 0, 1) := by decide +kernel
theorem dX12_word_47 : decode cX12_word 47 = .ok (.ldc 198, 2) := by decide +kernel
theorem dX12_word_49 : decode cX12_word 49 = .ok (.invokevirtual 119, 3) := by decide +kernel
theorem dX12_word_52 : decode cX12_word 52 = .ok (.ifCond .eq 6, 3) := by decide +kernel
theorem dX12_word_55 : decode cX12_word 55 = .ok (.bipush 6, 2) := by decide +kernel
theorem dX12_word_57 : decode cX12_word 57 = .ok (.ireturn, 1) := by decide +kernel
theorem dX12_word_58 : decode cX12_word 58 = .ok (.aload_n 0, 1) := by decide +kernel
theorem dX12_word_59 : decode cX12_word 59 = .ok (.getfield 186, 3) := by decide +kernel
theorem dX12_word_62 : decode cX12_word 62 = .ok (.ifCond .ne 10, 3) := by decide +kernel
theorem dX12_word_65 : decode cX12_word 65 = .ok (.aload_n 0, 1) := by decide +kernel
theorem dX12_word_66 : decode cX12_word 66 = .ok (.invokevirtual 200, 3) := by decide +kernel
theorem dX12_word_69 : decode cX12_word 69 = .ok (.goto 22, 3) := by decide +kernel
theorem dX12_word_72 : decode cX12_word 72 = .ok (.aload_n 0, 1) := by decide +kernel
theorem dX12_word_73 : decode cX12_word 73 = .ok (.getfield 186, 3) := by decide +kernel
theorem dX12_word_76 : decode cX12_word 76 = .ok (.iconst 1, 1) := by decide +kernel
theorem dX12_word_77 : decode cX12_word 77 = .ok (.if_icmp .ne 10, 3) := by decide +kernel
theorem dX12_word_80 : decode cX12_word 80 = .ok (.aload_n 0, 1) := by decide +kernel
theorem dX12_word_81 : decode cX12_word 81 = .ok (.invokevirtual 203, 3) := by decide +kernel
theorem dX12_word_84 : decode cX12_word 84 = .ok (.goto 7, 3) := by decide +kernel
theorem dX12_word_87 : decode cX12_word 87 = .ok (.aload_n 0, 1) := by decide +kernel
theorem dX12_word_88 : decode cX12_word 88 = .ok (.invokevirtual 206, 3) := by decide +kernel
theorem dX12_word_91 : decode cX12_word 91 = .ok (.ireturn, 1) := by decide +kernel
theorem dX12_next0_0 : decode cX12_next0 0 = .ok (.aload_n 0, 1) := by decide +kernel
theorem dX12_next0_1 : decode cX12_next0 1 = .ok (.aload_n 0, 1) := by decide +kernel
theorem dX12_next0_2 : decode cX12_next0 2 = .ok (.getfield 101, 3) := by decide +kernel
theorem dX12_next0_5 : decode cX12_next0 5 = .ok (.invokevirtual 209, 3) := by decide +kernel
theorem dX12_next0_8 : decode cX12_next0 8 = .ok (.bipush 32, 2) := by decide +kernel
theorem dX12_next0_10 : decode cX12_next0 10 = .ok (.if_icmp .eq 16, 3) := by decide +kernel
theorem dX12_next0_13 : decode cX12_next0 13 = .ok (.aload_n 0, 1) := by decide +kernel
theorem dX12_next0_14 : decode cX12_next0 14 = .ok (.aload_n 0, 1) := by decide +kernel
theorem dX12_next0_15 : decode cX12_next0 15 = .ok (.getfield 101, 3) := by decide +kernel
theorem dX12_next0_18 : decode cX12_next0 18 = .ok (.invokevirtual 209, 3) := by decide +kernel
theorem dX12_next0_21 : decode cX12_next0 21 = .ok (.bipush 10, 2) := by decide +kernel
theorem dX12_next0_23 : decode cX12_next0 23 = .ok (.if_icmp .ne 16, 3) := by decide +kernel
theorem dX12_next0_26 : decode cX12_next0 26 = .ok (.aload_n 0, 1) := by decide +kernel
theorem dX12_next0_27 : decode cX12_next0 27 = .ok (.dup, 1) := by decide +kernel
theorem dX12_next0_28 : decode cX12_next0 28 = .ok (.getfield 101, 3) := by decide +kernel
theorem dX12_next0_31 : decode cX12_next0 31 = .ok (.iconst 1, 1) := by decide +kernel
theorem dX12_next0_32 : decode cX12_next0 32 = .ok (.iadd, 1) := by decide +kernel
theorem dX12_next0_33 : decode cX12_next0 33 = .ok (.putfield 101, 3) := by decide +kernel
theorem dX12_next0_36 : decode cX12_next0 36 = .ok (.goto (-36), 3) := by decide +kernel
theorem dX12_next0_39 : decode cX12_next0 39 = .ok (.aload_n 0, 1) := by decide +kernel
theorem dX12_next0_40 : decode cX12_next0 40 = .ok (.aload_n 0, 1) := by decide +kernel
theorem dX12_next0_41 : decode cX12_next0 41 = .ok (.getfield 101, 3) := by decide +kernel
theorem dX12_next0_44 : decode cX12_next0 44 = .ok (.putfield 104, 3) := by decide +kernel
theorem dX12_next0_47 : decode cX12_next0 47 = .ok (.aload_n 0, 1) := by decide +kernel
theorem dX12_next0_48 : decode cX12_next0 48 = .ok (.aload_n 0, 1) := by decide +kernel
theorem dX12_next0_49 : decode cX12_next0 49 = .ok (.getfield 101, 3) := by decide +kernel
theorem dX12_next0_52 : decode cX12_next0 52 = .ok (.invokevirtual 209, 3) := by decide +kernel
theorem dX12_next0_55 : decode cX12_next0 55 = .ok (.istore_n 1, 1) := by decide +kernel
theorem dX12_next0_56 : decode cX12_next0 56 = .ok (.iload_n 1, 1) := by decide +kernel
theorem dX12_next0_57 : decode cX12_next0 57 = .ok (.iconst (-1), 1) := by decide +kernel
theorem dX12_next0_58 : decode cX12_next0 58 = .ok (.if_icmp .ne 11, 3) := by decide +kernel
theorem dX12_next0_61 : decode cX12_next0 61 = .ok (.aload_n 0, 1) := by decide +kernel
theorem dX12_next0_62 : decode cX12_next0 62 = .ok (.iconst 0, 1) := by decide +kernel
theorem dX12_next0_63 : decode cX12_next0 63 = .ok (.putfield 212, 3) := by decide +kernel
theorem dX12_next0_66 : decode cX12_next0 66 = .ok (.goto 240, 3) := by decide +kernel
theorem dX12_next0_69 : decode cX12_next0 69 = .ok (.iload_n 1, 1) := by decide +kernel
theorem dX12_next0_70 : decode cX12_next0 70 = .ok (.invokestatic 215, 3) := by decide +kernel
theorem dX12_next0_73 : decode cX12_next0 73 = .ok (.ifCond .eq 41, 3) := by decide +kernel
theorem dX12_next0_76 : decode cX12_next0 76 = .ok (.aload_n 0, 1) := by decide +kernel
theorem dX12_next0_77 : decode cX12_next0 77 = .ok (.aload_n 0, 1) := by decide +kernel
theorem dX12_next0_78 : decode cX12_next0 78 = .ok (.getfield 101, 3) := by decide +kernel
theorem dX12_next0_81 : decode cX12_next0 81 = .ok (.invokevirtual 209, 3) := by decide +kernel
theorem dX12_next0_84 : decode cX12_next0 84 = .ok (.invokestatic 215, 3) := by decide +kernel
theorem dX12_next0_87 : decode cX12_next0 87 = .ok (.ifCond .eq 16, 3) := by decide +kernel
theorem dX12_next0_90 : decode cX12_next0 90 = .ok (.aload_n 0, 1) := by decide +kernel
theorem dX12_next0_91 : decode cX12_next0 91 = .ok (.dup, 1) := by decide +kernel
theorem dX12_next0_92 : decode cX12_next0 92 = .ok (.getfield 101, 3) := by decide +kernel
theorem dX12_next0_95 : decode cX12_next0 95 = .ok (.iconst 1, 1) := by decide +kernel
theorem dX12_next0_96 : decode cX12_next0 96 = .ok (.iadd, 1) := by decide +kernel
theorem dX12_next0_97 : decode cX12_next0 97 = .ok (.putfield 101, 3) := by decide +kernel
theorem dX12_next0_100 : decode cX12_next0 100 = .ok (.goto (-24), 3) := by decide +kernel
theorem dX12_next0_103 : decode cX12_next0 103 = .ok (.aload_n 0, 1) := by decide +kernel
theorem dX12_next0_104 : decode cX12_next0 104 = .ok (.aload_n 0, 1) := by decide +kernel
theorem dX12_next0_105 : decode cX12_next0 105 = .ok (.invokevirtual 218, 3) := by decide +kernel
theorem dX12_next0_108 : decode cX12_next0 108 = .ok (.putfield 212, 3) := by decide +kernel
theorem dX12_next0_111 : decode cX12_next0 111 = .ok (.goto 195, 3) := by decide +kernel
theorem dX12_next0_114 : decode cX12_next0 114 = .ok (.iload_n 1, 1) := by decide +kernel
theorem dX12_next0_115 : decode cX12_next0 115 = .ok (.invokestatic 221, 3) := by decide +kernel
theorem dX12_next0_118 : decode cX12_next0 118 = .ok (.ifCond .eq 96, 3) := by decide +kernel
theorem dX12_next0_121 : decode cX12_next0 121 = .ok (.aload_n 0, 1) := by decide +kernel
theorem dX12_next0_122 : decode cX12_next0 122 = .ok (.iconst 0, 1) := by decide +kernel
theorem dX12_next0_123 : decode cX12_next0 123 = .ok (.putfield 224, 3) := by decide +kernel
theorem dX12_next0_126 : decode cX12_next0 126 = .ok (.aload_n 0, 1) := by decide +kernel
theorem dX12_next0_127 : decode cX12_next0 127 = .ok (.aload_n 0, 1) := by decide +kernel
theorem dX12_next0_128 : decode cX12_next0 128 = .ok (.getfield 101, 3) := by decide +kernel
theorem dX12_next0_131 : decode cX12_next0 131 = .ok (.invokevirtual 209, 3) := by decide +kernel
theorem dX12_next0_134 : decode cX12_next0 134 = .ok (.invokestatic 221, 3) := by decide +kernel
theorem dX12_next0_137 : decode cX12_next0 137 = .ok (.ifCond .eq 52, 3) := by decide +kernel
theorem dX12_next0_140 : decode cX12_next0 140 = .ok (.aload_n 0, 1) := by decide +kernel
theorem dX12_next0_141 : decode cX12_next0 141 = .ok (.getfield 101, 3) := by decide +kernel
theorem dX12_next0_144 : decode cX12_next0 144 = .ok (.aload_n 0, 1) := by decide +kernel
theorem dX12_next0_145 : decode cX12_next0 145 = .ok (.getfield 104, 3) := by decide +kernel
theorem dX12_next0_148 : decode cX12_next0 148 = .ok (.iconst 4, 1) := by decide +kernel
theorem dX12_next0_149 : decode cX12_next0 149 = .ok (.iadd, 1) := by decide +kernel
theorem dX12_next0_150 : decode cX12_next0 150 = .ok (.if_icmp .ge 26, 3) := by decide +kernel
theorem dX12_next0_153 : decode cX12_next0 153 = .ok (.aload_n 0, 1) := by decide +kernel
theorem dX12_next0_154 : decode cX12_next0 154 = .ok (.bipush 10, 2) := by decide +kernel
theorem dX12_next0_156 : decode cX12_next0 156 = .ok (.aload_n 0, 1) := by decide +kernel
theorem dX12_next0_157 : decode cX12_next0 157 = .ok (.getfield 224, 3) := by decide +kernel
theorem dX12_next0_160 : decode cX12_next0 160 = .ok (.imul, 1) := by decide +kernel
theorem dX12_next0_161 : decode cX12_next0 161 = .ok (.aload_n 0, 1) := by decide +kernel
theorem dX12_next0_162 : decode cX12_next0 162 = .ok (.aload_n 0, 1) := by decide +kernel
theorem dX12_next0_163 : decode cX12_next0 163 = .ok (.getfield 101, 3) := by decide +kernel
theorem dX12_next0_166 : decode cX12_next0 166 = .ok (.invokevirtual 209, 3) := by decide +kernel
theorem dX12_next0_169 : decode cX12_next0 169 = .ok (.iadd, 1) := by decide +kernel
theorem dX12_next0_170 : decode cX12_next0 170 = .ok (.bipush 48, 2) := by decide +kernel
theorem dX12_next0_172 : decode cX12_next0 172 = .ok (.isub, 1) := by decide +kernel
theorem dX12_next0_173 : decode cX12_next0 173 = .ok (.putfield 224, 3) := by decide +kernel
theorem dX12_next0_176 : decode cX12_next0 176 = .ok (.aload_n 0, 1) := by decide +kernel
theorem dX12_next0_177 : decode cX12_next0 177 = .ok (.dup, 1) := by decide +kernel
theorem dX12_next0_178 : decode cX12_next0 178 = .ok (.getfield 101, 3) := by decide +kernel
theorem dX12_next0_181 : decode cX12_next0 181 = .ok (.iconst 1, 1) := by decide +kernel
theorem dX12_next0_182 : decode cX12_next0 182 = .ok (.iadd, 1) := by decide +kernel
theorem dX12_next0_183 : decode cX12_next0 183 = .ok (.putfield 101, 3) := by decide +kernel
theorem dX12_next0_186 : decode cX12_next0 186 = .ok (.goto (-60), 3) := by decide +kernel
theorem dX12_next0_189 : decode cX12_next0 189 = .ok (.aload_n 0, 1) := by decide +kernel
theorem dX12_next0_190 : decode cX12_next0 190 = .ok (.aload_n 0, 1) := by decide +kernel
theorem dX12_next0_191 : decode cX12_next0 191 = .ok (.getfield 101, 3) := by decide +kernel
theorem dX12_next0_194 : decode cX12_next0 194 = .ok (.aload_n 0, 1) := by decide +kernel
theorem dX12_next0_195 : decode cX12_next0 195 = .ok (.getfield 104, 3) := by decide +kernel
theorem dX12_next0_198 : decode cX12_next0 198 = .ok (.isub, 1) := by decide +kernel
theorem dX12_next0_199 : decode cX12_next0 199 = .ok (.iconst 5, 1) := by decide +kernel
theorem dX12_next0_200 : decode cX12_next0 200 = .ok (.if_icmp .ge 7, 3) := by decide +kernel
theorem dX12_next0_203 : decode cX12_next0 203 = .ok (.iconst 2, 1) := by decide +kernel
theorem dX12_next0_204 : decode cX12_next0 204 = .ok (.goto 4, 3) := by decide +kernel
theorem dX12_next0_207 : decode cX12_next0 207 = .ok (.iconst 1, 1) := by decide +kernel
theorem dX12_next0_208 : decode cX12_next0 208 = .ok (.putfield 212, 3) := by decide +kernel
theorem dX12_next0_211 : decode cX12_next0 211 = .ok (.goto 95, 3) := by decide +kernel
theorem dX12_next0_214 : decode cX12_next0 214 = .ok (.aload_n 0, 1) := by decide +kernel
theorem dX12_next0_215 : decode cX12_next0 215 = .ok (.dup, 1) := by decide +kernel
theorem dX12_next0_216 : decode cX12_next0 216 = .ok (.getfield 101, 3) := by decide +kernel
theorem dX12_next0_219 : decode cX12_next0 219 = .ok (.iconst 1, 1) := by decide +kernel
theorem dX12_next0_220 : decode cX12_next0 220 = .ok (.iadd, 1) := by decide +kernel
theorem dX12_next0_221 : decode cX12_next0 221 = .ok (.putfield 101, 3) := by decide +kernel
theorem dX12_next0_224 : decode cX12_next0 224 = .ok (.iload_n 1, 1) := by decide +kernel
theorem dX12_next0_225 : decode cX12_next0 225 = .ok (.bipush 59, 2) := by decide +kernel
theorem dX12_next0_227 : decode cX12_next0 227 = .ok (.if_icmp .eq 57, 3) := by decide +kernel
theorem dX12_next0_230 : decode cX12_next0 230 = .ok (.iload_n 1, 1) := by decide +kernel
theorem dX12_next0_231 : decode cX12_next0 231 = .ok (.bipush 43, 2) := by decide +kernel
theorem dX12_next0_233 : decode cX12_next0 233 = .ok (.if_icmp .eq 51, 3) := by decide +kernel
theorem dX12_next0_236 : decode cX12_next0 236 = .ok (.iload_n 1, 1) := by decide +kernel
theorem dX12_next0_237 : decode cX12_next0 237 = .ok (.bipush 45, 2) := by decide +kernel
theorem dX12_next0_239 : decode cX12_next0 239 = .ok (.if_icmp .eq 45, 3) := by decide +kernel
theorem dX12_next0_242 : decode cX12_next0 242 = .ok (.iload_n 1, 1) := by decide +kernel
theorem dX12_next0_243 : decode cX12_next0 243 = .ok (.bipush 42, 2) := by decide +kernel
theorem dX12_next0_245 : decode cX12_next0 245 = .ok (.if_icmp .eq 39, 3) := by decide +kernel
theorem dX12_next0_248 : decode cX12_next0 248 = .ok (.iload_n 1, 1) := by decide +kernel
theorem dX12_next0_249 : decode cX12_next0 249 = .ok (.bipush 47, 2) := by decide +kernel
theorem dX12_next0_251 : decode cX12_next0 251 = .ok (.if_icmp .eq 33, 3) := by decide +kernel
theorem dX12_next0_254 : decode cX12_next0 254 = .ok (.iload_n 1, 1) := by decide +kernel
theorem dX12_next0_255 : decode cX12_next0 255 = .ok (.bipush 40, 2) := by decide +kernel
theorem dX12_next0_257 : decode cX12_next0 257 = .ok (.if_icmp .eq 27, 3) := by decide +kernel
theorem dX12_next0_260 : decode cX12_next0 260 = .ok (.iload_n 1, 1) := by decide +kernel
theorem dX12_next0_261 : decode cX12_next0 261 = .ok (.bipush 41, 2) := by decide +kernel
theorem dX12_next0_263 : decode cX12_next0 263 = .ok (.if_icmp .eq 21, 3) := by decide +kernel
theorem dX12_next0_266 : decode cX12_next0 266 = .ok (.iload_n 1, 1) := by decide +kernel
theorem dX12_next0_267 : decode cX12_next0 267 = .ok (.bipush 60, 2) := by decide +kernel
theorem dX12_next0_269 : decode cX12_next0 269 = .ok (.if_icmp .eq 15, 3) := by decide +kernel
theorem dX12_next0_272 : decode cX12_next0 272 = .ok (.iload_n 1, 1) := by decide +kernel
theorem dX12_next0_273 : decode cX12_next0 273 = .ok (.bipush 61, 2) := by decide +kernel
theorem dX12_next0_275 : decode cX12_next0 275 = .ok (.if_icmp .eq 9, 3) := by decide +kernel
theorem dX12_next0_278 : decode cX12_next0 278 = .ok (.iload_n 1, 1) := by decide +kernel
theorem dX12_next0_279 : decode cX12_next0 279 = .ok (.bipush 62, 2) := by decide +kernel
theorem dX12_next0_281 : decode cX12_next0 281 = .ok (.if_icmp .ne 7, 3) := by decide +kernel
theorem dX12_next0_284 : decode cX12_next0 284 = .ok (.iconst 1, 1) := by decide +kernel
theorem dX12_next0_285 : decode cX12_next0 285 = .ok (.goto 4, 3) := by decide +kernel
theorem dX12_next0_288 : decode cX12_next0 288 = .ok (.iconst 0, 1) := by decide +kernel
theorem dX12_next0_289 : decode cX12_next0 289 = .ok (.istore_n 2, 1) := by decide +kernel
theorem dX12_next0_290 : decode cX12_next0 290 = .ok (.aload_n 0, 1) := by decide +kernel
theorem dX12_next0_291 : decode cX12_next0 291 = .ok (.iload_n 2, 1) := by decide +kernel
theorem dX12_next0_292 : decode cX12_next0 292 = .ok (.ifCond .eq 10, 3) := by decide +kernel
theorem dX12_next0_295 : decode cX12_next0 295 = .ok (.bipush 100, 2) := by decide +kernel
theorem dX12_next0_297 : decode cX12_next0 297 = .ok (.iload_n 1, 1) := by decide +kernel
theorem dX12_next0_298 : decode cX12_next0 298 = .ok (.iadd, 1) := by decide +kernel
theorem dX12_next0_299 : decode cX12_next0 299 = .ok (.goto 4, 3) := by decide +kernel
theorem dX12_next0_302 : decode cX12_next0 302 = .ok (.iconst 1, 1) := by decide +kernel
theorem dX12_next0_303 : decode cX12_next0 303 = .ok (.putfield 212, 3) := by decide +kernel
theorem dX12_next0_306 : decode cX12_next0 306 = .ok (.return_, 1) := by decide +kernel
theorem dX12_bad_0 : decode cX12_bad 0 = .ok (.aload_n 0, 1) := by decide +kernel
theorem dX12_bad_1 : decode cX12_bad 1 = .ok (.iload_n 1, 1) := by decide +kernel
theorem dX12_bad_2 : decode cX12_bad 2 = .ok (.putfield 227, 3) := by decide +kernel
theorem dX12_bad_5 : decode cX12_bad 5 = .ok (.aload_n 0, 1) := by decide +kernel
theorem dX12_bad_6 : decode cX12_bad 6 = .ok (.aload_n 0, 1) := by decide +kernel
theorem dX12_bad_7 : decode cX12_bad 7 = .ok (.getfield 104, 3) := by decide +kernel
theorem dX12_bad_10 : decode cX12_bad 10 = .ok (.putfield 230, 3) := by decide +kernel
theorem dX12_bad_13 : decode cX12_bad 13 = .ok (.iconst 0, 1) := by decide +kernel
theorem dX12_bad_14 : decode cX12_bad 14 = .ok (.ireturn, 1) := by decide +kernel
theorem dX12_need_0 : decode cX12_need 0 = .ok (.aload_n 0, 1) := by decide +kernel
theorem dX12_need_1 : decode cX12_need 1 = .ok (.getfield 212, 3) := by decide +kernel
theorem dX12_need_4 : decode cX12_need 4 = .ok (.iload_n 1, 1) := by decide +kernel
theorem dX12_need_5 : decode cX12_need 5 = .ok (.if_icmp .eq 9, 3) := by decide +kernel
theorem dX12_need_8 : decode cX12_need 8 = .ok (.aload_n 0, 1) := by decide +kernel
theorem dX12_need_9 : decode cX12_need 9 = .ok (.iconst 1, 1) := by decide +kernel
theorem dX12_need_10 : decode cX12_need 10 = .ok (.invokevirtual 233, 3) := by decide +kernel
theorem dX12_need_13 : decode cX12_need 13 = .ok (.ireturn, 1) := by decide +kernel
theorem dX12_need_14 : decode cX12_need 14 = .ok (.aload_n 0, 1) := by decide +kernel
theorem dX12_need_15 : decode cX12_need 15 = .ok (.invokevirtual 236, 3) := by decide +kernel
theorem dX12_need_18 : decode cX12_need 18 = .ok (.iconst 1, 1) := by decide +kernel
theorem dX12_need_19 : decode cX12_need 19 = .ok (.ireturn, 1) := by decide +kernel
theorem dX12_lay_0 : decode cX12_lay 0 = .ok (.aload_n 0, 1) := by decide +kernel
theorem dX12_lay_1 : decode cX12_lay 1 = .ok (.getfield 22, 3) := by decide +kernel
theorem dX12_lay_4 : decode cX12_lay 4 = .ok (.iconst 2, 1) := by decide +kernel
theorem dX12_lay_5 : decode cX12_lay 5 = .ok (.aload_n 0, 1) := by decide +kernel
theorem dX12_lay_6 : decode cX12_lay 6 = .ok (.getfield 239, 3) := by decide +kernel
theorem dX12_lay_9 : decode cX12_lay 9 = .ok (.imul, 1) := by decide +kernel
theorem dX12_lay_10 : decode cX12_lay 10 = .ok (.iload_n 1, 1) := by decide +kernel
theorem dX12_lay_11 : decode cX12_lay 11 = .ok (.iastore, 1) := by decide +kernel
theorem dX12_lay_12 : decode cX12_lay 12 = .ok (.aload_n 0, 1) := by decide +kernel
theorem dX12_lay_13 : decode cX12_lay 13 = .ok (.getfield 22, 3) := by decide +kernel
theorem dX12_lay_16 : decode cX12_lay 16 = .ok (.iconst 2, 1) := by decide +kernel
theorem dX12_lay_17 : decode cX12_lay 17 = .ok (.aload_n 0, 1) := by decide +kernel
theorem dX12_lay_18 : decode cX12_lay 18 = .ok (.getfield 239, 3) := by decide +kernel
theorem dX12_lay_21 : decode cX12_lay 21 = .ok (.imul, 1) := by decide +kernel
theorem dX12_lay_22 : decode cX12_lay 22 = .ok (.iconst 1, 1) := by decide +kernel
theorem dX12_lay_23 : decode cX12_lay 23 = .ok (.iadd, 1) := by decide +kernel
theorem dX12_lay_24 : decode cX12_lay 24 = .ok (.iload_n 2, 1) := by decide +kernel
theorem dX12_lay_25 : decode cX12_lay 25 = .ok (.iastore, 1) := by decide +kernel
theorem dX12_lay_26 : decode cX12_lay 26 = .ok (.aload_n 0, 1) := by decide +kernel
theorem dX12_lay_27 : decode cX12_lay 27 = .ok (.dup, 1) := by decide +kernel
theorem dX12_lay_28 : decode cX12_lay 28 = .ok (.getfield 239, 3) := by decide +kernel
theorem dX12_lay_31 : decode cX12_lay 31 = .ok (.iconst 1, 1) := by decide +kernel
theorem dX12_lay_32 : decode cX12_lay 32 = .ok (.iadd, 1) := by decide +kernel
theorem dX12_lay_33 : decode cX12_lay 33 = .ok (.putfield 239, 3) := by decide +kernel
theorem dX12_lay_36 : decode cX12_lay 36 = .ok (.return_, 1) := by decide +kernel
theorem dX12_opens_0 : decode cX12_opens 0 = .ok (.aload_n 0, 1) := by decide +kernel
theorem dX12_opens_1 : decode cX12_opens 1 = .ok (.getfield 242, 3) := by decide +kernel
theorem dX12_opens_4 : decode cX12_opens 4 = .ok (.bipush 8, 2) := by decide +kernel
theorem dX12_opens_6 : decode cX12_opens 6 = .ok (.if_icmp .ne 9, 3) := by decide +kernel
theorem dX12_opens_9 : decode cX12_opens 9 = .ok (.aload_n 0, 1) := by decide +kernel
theorem dX12_opens_10 : decode cX12_opens 10 = .ok (.iconst 3, 1) := by decide +kernel
theorem dX12_opens_11 : decode cX12_opens 11 = .ok (.invokevirtual 233, 3) := by decide +kernel
theorem dX12_opens_14 : decode cX12_opens 14 = .ok (.ireturn, 1) := by decide +kernel
theorem dX12_opens_15 : decode cX12_opens 15 = .ok (.aload_n 0, 1) := by decide +kernel
theorem dX12_opens_16 : decode cX12_opens 16 = .ok (.dup, 1) := by decide +kernel
theorem dX12_opens_17 : decode cX12_opens 17 = .ok (.getfield 242, 3) := by decide +kernel
theorem dX12_opens_20 : decode cX12_opens 20 = .ok (.iconst 1, 1) := by decide +kernel
theorem dX12_opens_21 : decode cX12_opens 21 = .ok (.iadd, 1) := by decide +kernel
theorem dX12_opens_22 : decode cX12_opens 22 = .ok (.putfield 242, 3) := by decide +kernel
theorem dX12_opens_25 : decode cX12_opens 25 = .ok (.aload_n 0, 1) := by decide +kernel
theorem dX12_opens_26 : decode cX12_opens 26 = .ok (.invokevirtual 236, 3) := by decide +kernel
theorem dX12_opens_29 : decode cX12_opens 29 = .ok (.iconst 1, 1) := by decide +kernel
theorem dX12_opens_30 : decode cX12_opens 30 = .ok (.ireturn, 1) := by decide +kernel
theorem dX12_sumUp_0 : decode cX12_sumUp 0 = .ok (.aload_n 0, 1) := by decide +kernel
theorem dX12_sumUp_1 : decode cX12_sumUp 1 = .ok (.invokevirtual 245, 3) := by decide +kernel
theorem dX12_sumUp_4 : decode cX12_sumUp 4 = .ok (.ifCond .ne 5, 3) := by decide +kernel
theorem dX12_sumUp_7 : decode cX12_sumUp 7 = .ok (.iconst 0, 1) := by decide +kernel
theorem dX12_sumUp_8 : decode cX12_sumUp 8 = .ok (.ireturn, 1) := by decide +kernel
theorem dX12_sumUp_9 : decode cX12_sumUp 9 = .ok (.aload_n 0, 1) := by decide +kernel
theorem dX12_sumUp_10 : decode cX12_sumUp 10 = .ok (.getfield 212, 3) := by decide +kernel
theorem dX12_sumUp_13 : decode cX12_sumUp 13 = .ok (.sipush 143, 3) := by decide +kernel
theorem dX12_sumUp_16 : decode cX12_sumUp 16 = .ok (.if_icmp .eq 13, 3) := by decide +kernel
theorem dX12_sumUp_19 : decode cX12_sumUp 19 = .ok (.aload_n 0, 1) := by decide +kernel
theorem dX12_sumUp_20 : decode cX12_sumUp 20 = .ok (.getfield 212, 3) := by decide +kernel
theorem dX12_sumUp_23 : decode cX12_sumUp 23 = .ok (.sipush 145, 3) := by decide +kernel
theorem dX12_sumUp_26 : decode cX12_sumUp 26 = .ok (.if_icmp .ne 43, 3) := by decide +kernel
theorem dX12_sumUp_29 : decode cX12_sumUp 29 = .ok (.aload_n 0, 1) := by decide +kernel
theorem dX12_sumUp_30 : decode cX12_sumUp 30 = .ok (.getfield 212, 3) := by decide +kernel
theorem dX12_sumUp_33 : decode cX12_sumUp 33 = .ok (.sipush 143, 3) := by decide +kernel
theorem dX12_sumUp_36 : decode cX12_sumUp 36 = .ok (.if_icmp .ne 8, 3) := by decide +kernel
theorem dX12_sumUp_39 : decode cX12_sumUp 39 = .ok (.bipush 23, 2) := by decide +kernel
theorem dX12_sumUp_41 : decode cX12_sumUp 41 = .ok (.goto 5, 3) := by decide +kernel
theorem dX12_sumUp_44 : decode cX12_sumUp 44 = .ok (.bipush 24, 2) := by decide +kernel
theorem dX12_sumUp_46 : decode cX12_sumUp 46 = .ok (.istore_n 1, 1) := by decide +kernel
theorem dX12_sumUp_47 : decode cX12_sumUp 47 = .ok (.aload_n 0, 1) := by decide +kernel
theorem dX12_sumUp_48 : decode cX12_sumUp 48 = .ok (.invokevirtual 236, 3) := by decide +kernel
theorem dX12_sumUp_51 : decode cX12_sumUp 51 = .ok (.aload_n 0, 1) := by decide +kernel
theorem dX12_sumUp_52 : decode cX12_sumUp 52 = .ok (.invokevirtual 245, 3) := by decide +kernel
theorem dX12_sumUp_55 : decode cX12_sumUp 55 = .ok (.ifCond .ne 5, 3) := by decide +kernel
theorem dX12_sumUp_58 : decode cX12_sumUp 58 = .ok (.iconst 0, 1) := by decide +kernel
theorem dX12_sumUp_59 : decode cX12_sumUp 59 = .ok (.ireturn, 1) := by decide +kernel
theorem dX12_sumUp_60 : decode cX12_sumUp 60 = .ok (.aload_n 0, 1) := by decide +kernel
theorem dX12_sumUp_61 : decode cX12_sumUp 61 = .ok (.iload_n 1, 1) := by decide +kernel
theorem dX12_sumUp_62 : decode cX12_sumUp 62 = .ok (.iconst 0, 1) := by decide +kernel
theorem dX12_sumUp_63 : decode cX12_sumUp 63 = .ok (.invokevirtual 249, 3) := by decide +kernel
theorem dX12_sumUp_66 : decode cX12_sumUp 66 = .ok (.goto (-57), 3) := by decide +kernel
theorem dX12_sumUp_69 : decode cX12_sumUp 69 = .ok (.iconst 1, 1) := by decide +kernel
theorem dX12_sumUp_70 : decode cX12_sumUp 70 = .ok (.ireturn, 1) := by decide +kernel
theorem dX12_product_0 : decode cX12_product 0 = .ok (.aload_n 0, 1) := by decide +kernel
theorem dX12_product_1 : decode cX12_product 1 = .ok (.invokevirtual 253, 3) := by decide +kernel
theorem dX12_product_4 : decode cX12_product 4 = .ok (.ifCond .ne 5, 3) := by decide +kernel
theorem dX12_product_7 : decode cX12_product 7 = .ok (.iconst 0, 1) := by decide +kernel
theorem dX12_product_8 : decode cX12_product 8 = .ok (.ireturn, 1) := by decide +kernel
theorem dX12_product_9 : decode cX12_product 9 = .ok (.aload_n 0, 1) := by decide +kernel
theorem dX12_product_10 : decode cX12_product 10 = .ok (.getfield 212, 3) := by decide +kernel
theorem dX12_product_13 : decode cX12_product 13 = .ok (.sipush 142, 3) := by decide +kernel
theorem dX12_product_16 : decode cX12_product 16 = .ok (.if_icmp .eq 13, 3) := by decide +kernel
theorem dX12_product_19 : decode cX12_product 19 = .ok (.aload_n 0, 1) := by decide +kernel
theorem dX12_product_20 : decode cX12_product 20 = .ok (.getfield 212, 3) := by decide +kernel
theorem dX12_product_23 : decode cX12_product 23 = .ok (.sipush 147, 3) := by decide +kernel
theorem dX12_product_26 : decode cX12_product 26 = .ok (.if_icmp .ne 89, 3) := by decide +kernel
theorem dX12_product_29 : decode cX12_product 29 = .ok (.aload_n 0, 1) := by decide +kernel
theorem dX12_product_30 : decode cX12_product 30 = .ok (.getfield 212, 3) := by decide +kernel
theorem dX12_product_33 : decode cX12_product 33 = .ok (.sipush 147, 3) := by decide +kernel
theorem dX12_product_36 : decode cX12_product 36 = .ok (.if_icmp .ne 7, 3) := by decide +kernel
theorem dX12_product_39 : decode cX12_product 39 = .ok (.iconst 1, 1) := by decide +kernel
theorem dX12_product_40 : decode cX12_product 40 = .ok (.goto 4, 3) := by decide +kernel
theorem dX12_product_43 : decode cX12_product 43 = .ok (.iconst 0, 1) := by decide +kernel
theorem dX12_product_44 : decode cX12_product 44 = .ok (.istore_n 1, 1) := by decide +kernel
theorem dX12_product_45 : decode cX12_product 45 = .ok (.aload_n 0, 1) := by decide +kernel
theorem dX12_product_46 : decode cX12_product 46 = .ok (.invokevirtual 236, 3) := by decide +kernel
theorem dX12_product_49 : decode cX12_product 49 = .ok (.iload_n 1, 1) := by decide +kernel
theorem dX12_product_50 : decode cX12_product 50 = .ok (.ifCond .eq 46, 3) := by decide +kernel
theorem dX12_product_53 : decode cX12_product 53 = .ok (.aload_n 0, 1) := by decide +kernel
theorem dX12_product_54 : decode cX12_product 54 = .ok (.getfield 224, 3) := by decide +kernel
theorem dX12_product_57 : decode cX12_product 57 = .ok (.istore_n 2, 1) := by decide +kernel
theorem dX12_product_58 : decode cX12_product 58 = .ok (.aload_n 0, 1) := by decide +kernel
theorem dX12_product_59 : decode cX12_product 59 = .ok (.getfield 212, 3) := by decide +kernel
theorem dX12_product_62 : decode cX12_product 62 = .ok (.iconst 2, 1) := by decide +kernel
theorem dX12_product_63 : decode cX12_product 63 = .ok (.if_icmp .eq 9, 3) := by decide +kernel
theorem dX12_product_66 : decode cX12_product 66 = .ok (.aload_n 0, 1) := by decide +kernel
theorem dX12_product_67 : decode cX12_product 67 = .ok (.iconst 1, 1) := by decide +kernel
theorem dX12_product_68 : decode cX12_product 68 = .ok (.invokevirtual 233, 3) := by decide +kernel
theorem dX12_product_71 : decode cX12_product 71 = .ok (.ireturn, 1) := by decide +kernel
theorem dX12_product_72 : decode cX12_product 72 = .ok (.iload_n 2, 1) := by decide +kernel
theorem dX12_product_73 : decode cX12_product 73 = .ok (.ifCond .ne 9, 3) := by decide +kernel
theorem dX12_product_76 : decode cX12_product 76 = .ok (.aload_n 0, 1) := by decide +kernel
theorem dX12_product_77 : decode cX12_product 77 = .ok (.iconst 2, 1) := by decide +kernel
theorem dX12_product_78 : decode cX12_product 78 = .ok (.invokevirtual 233, 3) := by decide +kernel
theorem dX12_product_81 : decode cX12_product 81 = .ok (.ireturn, 1) := by decide +kernel
theorem dX12_product_82 : decode cX12_product 82 = .ok (.aload_n 0, 1) := by decide +kernel
theorem dX12_product_83 : decode cX12_product 83 = .ok (.invokevirtual 236, 3) := by decide +kernel
theorem dX12_product_86 : decode cX12_product 86 = .ok (.aload_n 0, 1) := by decide +kernel
theorem dX12_product_87 : decode cX12_product 87 = .ok (.bipush 26, 2) := by decide +kernel
theorem dX12_product_89 : decode cX12_product 89 = .ok (.iload_n 2, 1) := by decide +kernel
theorem dX12_product_90 : decode cX12_product 90 = .ok (.invokevirtual 249, 3) := by decide +kernel
theorem dX12_product_93 : decode cX12_product 93 = .ok (.goto 19, 3) := by decide +kernel
theorem dX12_product_96 : decode cX12_product 96 = .ok (.aload_n 0, 1) := by decide +kernel
theorem dX12_product_97 : decode cX12_product 97 = .ok (.invokevirtual 253, 3) := by decide +kernel
theorem dX12_product_100 : decode cX12_product 100 = .ok (.ifCond .ne 5, 3) := by decide +kernel
theorem dX12_product_103 : decode cX12_product 103 = .ok (.iconst 0, 1) := by decide +kernel
theorem dX12_product_104 : decode cX12_product 104 = .ok (.ireturn, 1) := by decide +kernel
theorem dX12_product_105 : decode cX12_product 105 = .ok (.aload_n 0, 1) := by decide +kernel
theorem dX12_product_106 : decode cX12_product 106 = .ok (.bipush 25, 2) := by decide +kernel
theorem dX12_product_108 : decode cX12_product 108 = .ok (.iconst 0, 1) := by decide +kernel
theorem dX12_product_109 : decode cX12_product 109 = .ok (.invokevirtual 249, 3) := by decide +kernel
theorem dX12_product_112 : decode cX12_product 112 = .ok (.goto (-103), 3) := by decide +kernel
theorem dX12_product_115 : decode cX12_product 115 = .ok (.iconst 1, 1) := by decide +kernel
theorem dX12_product_116 : decode cX12_product 116 = .ok (.ireturn, 1) := by decide +kernel
theorem dX12_unit_0 : decode cX12_unit 0 = .ok (.aload_n 0, 1) := by decide +kernel
theorem dX12_unit_1 : decode cX12_unit 1 = .ok (.getfield 212, 3) := by decide +kernel
theorem dX12_unit_4 : decode cX12_unit 4 = .ok (.bipush 41, 2) := by decide +kernel
theorem dX12_unit_6 : decode cX12_unit 6 = .ok (.bipush 59, 2) := by decide +kernel
theorem dX12_unit_8 : decode cX12_unit 8 = .ok (.invokestatic 71, 3) := by decide +kernel
theorem dX12_unit_11 : decode cX12_unit 11 = .ok (.istore_n 1, 1) := by decide +kernel
theorem dX12_unit_12 : decode cX12_unit 12 = .ok (.aload_n 0, 1) := by decide +kernel
theorem dX12_unit_13 : decode cX12_unit 13 = .ok (.getfield 212, 3) := by decide +kernel
theorem dX12_unit_16 : decode cX12_unit 16 = .ok (.iconst 2, 1) := by decide +kernel
theorem dX12_unit_17 : decode cX12_unit 17 = .ok (.if_icmp .eq 13, 3) := by decide +kernel
theorem dX12_unit_20 : decode cX12_unit 20 = .ok (.iload_n 1, 1) := by decide +kernel
theorem dX12_unit_21 : decode cX12_unit 21 = .ok (.ifCond .ne 9, 3) := by decide +kernel
theorem dX12_unit_24 : decode cX12_unit 24 = .ok (.aload_n 0, 1) := by decide +kernel
theorem dX12_unit_25 : decode cX12_unit 25 = .ok (.iconst 1, 1) := by decide +kernel
theorem dX12_unit_26 : decode cX12_unit 26 = .ok (.invokevirtual 233, 3) := by decide +kernel
theorem dX12_unit_29 : decode cX12_unit 29 = .ok (.ireturn, 1) := by decide +kernel
theorem dX12_unit_30 : decode cX12_unit 30 = .ok (.aload_n 0, 1) := by decide +kernel
theorem dX12_unit_31 : decode cX12_unit 31 = .ok (.iload_n 1, 1) := by decide +kernel
theorem dX12_unit_32 : decode cX12_unit 32 = .ok (.ifCond .eq 13, 3) := by decide +kernel
theorem dX12_unit_35 : decode cX12_unit 35 = .ok (.aload_n 0, 1) := by decide +kernel
theorem dX12_unit_36 : decode cX12_unit 36 = .ok (.getfield 212, 3) := by decide +kernel
theorem dX12_unit_39 : decode cX12_unit 39 = .ok (.bipush 40, 2) := by decide +kernel
theorem dX12_unit_41 : decode cX12_unit 41 = .ok (.isub, 1) := by decide +kernel
theorem dX12_unit_42 : decode cX12_unit 42 = .ok (.goto 4, 3) := by decide +kernel
theorem dX12_unit_45 : decode cX12_unit 45 = .ok (.iconst 0, 1) := by decide +kernel
theorem dX12_unit_46 : decode cX12_unit 46 = .ok (.aload_n 0, 1) := by decide +kernel
theorem dX12_unit_47 : decode cX12_unit 47 = .ok (.getfield 224, 3) := by decide +kernel
theorem dX12_unit_50 : decode cX12_unit 50 = .ok (.invokevirtual 249, 3) := by decide +kernel
theorem dX12_unit_53 : decode cX12_unit 53 = .ok (.aload_n 0, 1) := by decide +kernel
theorem dX12_unit_54 : decode cX12_unit 54 = .ok (.invokevirtual 236, 3) := by decide +kernel
theorem dX12_unit_57 : decode cX12_unit 57 = .ok (.iconst 1, 1) := by decide +kernel
theorem dX12_unit_58 : decode cX12_unit 58 = .ok (.ireturn, 1) := by decide +kernel
theorem dX12_any_0 : decode cX12_any 0 = .ok (.aload_n 0, 1) := by decide +kernel
theorem dX12_any_1 : decode cX12_any 1 = .ok (.invokevirtual 256, 3) := by decide +kernel
theorem dX12_any_4 : decode cX12_any 4 = .ok (.ifCond .ne 5, 3) := by decide +kernel
theorem dX12_any_7 : decode cX12_any 7 = .ok (.iconst 0, 1) := by decide +kernel
theorem dX12_any_8 : decode cX12_any 8 = .ok (.ireturn, 1) := by decide +kernel
theorem dX12_any_9 : decode cX12_any 9 = .ok (.aload_n 0, 1) := by decide +kernel
theorem dX12_any_10 : decode cX12_any 10 = .ok (.getfield 212, 3) := by decide +kernel
theorem dX12_any_13 : decode cX12_any 13 = .ok (.iconst 4, 1) := by decide +kernel
theorem dX12_any_14 : decode cX12_any 14 = .ok (.if_icmp .ne 26, 3) := by decide +kernel
theorem dX12_any_17 : decode cX12_any 17 = .ok (.aload_n 0, 1) := by decide +kernel
theorem dX12_any_18 : decode cX12_any 18 = .ok (.invokevirtual 236, 3) := by decide +kernel
theorem dX12_any_21 : decode cX12_any 21 = .ok (.aload_n 0, 1) := by decide +kernel
theorem dX12_any_22 : decode cX12_any 22 = .ok (.invokevirtual 256, 3) := by decide +kernel
theorem dX12_any_25 : decode cX12_any 25 = .ok (.ifCond .ne 5, 3) := by decide +kernel
theorem dX12_any_28 : decode cX12_any 28 = .ok (.iconst 0, 1) := by decide +kernel
theorem dX12_any_29 : decode cX12_any 29 = .ok (.ireturn, 1) := by decide +kernel
theorem dX12_any_30 : decode cX12_any 30 = .ok (.aload_n 0, 1) := by decide +kernel
theorem dX12_any_31 : decode cX12_any 31 = .ok (.bipush 32, 2) := by decide +kernel
theorem dX12_any_33 : decode cX12_any 33 = .ok (.iconst 0, 1) := by decide +kernel
theorem dX12_any_34 : decode cX12_any 34 = .ok (.invokevirtual 249, 3) := by decide +kernel
theorem dX12_any_37 : decode cX12_any 37 = .ok (.goto (-28), 3) := by decide +kernel
theorem dX12_any_40 : decode cX12_any 40 = .ok (.iconst 1, 1) := by decide +kernel
theorem dX12_any_41 : decode cX12_any 41 = .ok (.ireturn, 1) := by decide +kernel
theorem dX12_every_0 : decode cX12_every 0 = .ok (.aload_n 0, 1) := by decide +kernel
theorem dX12_every_1 : decode cX12_every 1 = .ok (.invokevirtual 259, 3) := by decide +kernel
theorem dX12_every_4 : decode cX12_every 4 = .ok (.ifCond .ne 5, 3) := by decide +kernel
theorem dX12_every_7 : decode cX12_every 7 = .ok (.iconst 0, 1) := by decide +kernel
theorem dX12_every_8 : decode cX12_every 8 = .ok (.ireturn, 1) := by decide +kernel
theorem dX12_every_9 : decode cX12_every 9 = .ok (.aload_n 0, 1) := by decide +kernel
theorem dX12_every_10 : decode cX12_every 10 = .ok (.getfield 212, 3) := by decide +kernel
theorem dX12_every_13 : decode cX12_every 13 = .ok (.iconst 5, 1) := by decide +kernel
theorem dX12_every_14 : decode cX12_every 14 = .ok (.if_icmp .ne 26, 3) := by decide +kernel
theorem dX12_every_17 : decode cX12_every 17 = .ok (.aload_n 0, 1) := by decide +kernel
theorem dX12_every_18 : decode cX12_every 18 = .ok (.invokevirtual 236, 3) := by decide +kernel
theorem dX12_every_21 : decode cX12_every 21 = .ok (.aload_n 0, 1) := by decide +kernel
theorem dX12_every_22 : decode cX12_every 22 = .ok (.invokevirtual 259, 3) := by decide +kernel
theorem dX12_every_25 : decode cX12_every 25 = .ok (.ifCond .ne 5, 3) := by decide +kernel
theorem dX12_every_28 : decode cX12_every 28 = .ok (.iconst 0, 1) := by decide +kernel
theorem dX12_every_29 : decode cX12_every 29 = .ok (.ireturn, 1) := by decide +kernel
theorem dX12_every_30 : decode cX12_every 30 = .ok (.aload_n 0, 1) := by decide +kernel
theorem dX12_every_31 : decode cX12_every 31 = .ok (.bipush 31, 2) := by decide +kernel
theorem dX12_every_33 : decode cX12_every 33 = .ok (.iconst 0, 1) := by decide +kernel
theorem dX12_every_34 : decode cX12_every 34 = .ok (.invokevirtual 249, 3) := by decide +kernel
theorem dX12_every_37 : decode cX12_every 37 = .ok (.goto (-28), 3) := by decide +kernel
theorem dX12_every_40 : decode cX12_every 40 = .ok (.iconst 1, 1) := by decide +kernel
theorem dX12_every_41 : decode cX12_every 41 = .ok (.ireturn, 1) := by decide +kernel
theorem dX12_oneTest_0 : decode cX12_oneTest 0 = .ok (.aload_n 0, 1) := by decide +kernel
theorem dX12_oneTest_1 : decode cX12_oneTest 1 = .ok (.getfield 212, 3) := by decide +kernel
theorem dX12_oneTest_4 : decode cX12_oneTest 4 = .ok (.bipush 6, 2) := by decide +kernel
theorem dX12_oneTest_6 : decode cX12_oneTest 6 = .ok (.if_icmp .ne 38, 3) := by decide +kernel
theorem dX12_oneTest_9 : decode cX12_oneTest 9 = .ok (.aload_n 0, 1) := by decide +kernel
theorem dX12_oneTest_10 : decode cX12_oneTest 10 = .ok (.invokevirtual 262, 3) := by decide +kernel
theorem dX12_oneTest_13 : decode cX12_oneTest 13 = .ok (.ifCond .eq 10, 3) := by decide +kernel
theorem dX12_oneTest_16 : decode cX12_oneTest 16 = .ok (.aload_n 0, 1) := by decide +kernel
theorem dX12_oneTest_17 : decode cX12_oneTest 17 = .ok (.invokevirtual 259, 3) := by decide +kernel
theorem dX12_oneTest_20 : decode cX12_oneTest 20 = .ok (.ifCond .ne 5, 3) := by decide +kernel
theorem dX12_oneTest_23 : decode cX12_oneTest 23 = .ok (.iconst 0, 1) := by decide +kernel
theorem dX12_oneTest_24 : decode cX12_oneTest 24 = .ok (.ireturn, 1) := by decide +kernel
theorem dX12_oneTest_25 : decode cX12_oneTest 25 = .ok (.aload_n 0, 1) := by decide +kernel
theorem dX12_oneTest_26 : decode cX12_oneTest 26 = .ok (.dup, 1) := by decide +kernel
theorem dX12_oneTest_27 : decode cX12_oneTest 27 = .ok (.getfield 242, 3) := by decide +kernel
theorem dX12_oneTest_30 : decode cX12_oneTest 30 = .ok (.iconst 1, 1) := by decide +kernel
theorem dX12_oneTest_31 : decode cX12_oneTest 31 = .ok (.isub, 1) := by decide +kernel
theorem dX12_oneTest_32 : decode cX12_oneTest 32 = .ok (.putfield 242, 3) := by decide +kernel
theorem dX12_oneTest_35 : decode cX12_oneTest 35 = .ok (.aload_n 0, 1) := by decide +kernel
theorem dX12_oneTest_36 : decode cX12_oneTest 36 = .ok (.bipush 30, 2) := by decide +kernel
theorem dX12_oneTest_38 : decode cX12_oneTest 38 = .ok (.iconst 0, 1) := by decide +kernel
theorem dX12_oneTest_39 : decode cX12_oneTest 39 = .ok (.invokevirtual 249, 3) := by decide +kernel
theorem dX12_oneTest_42 : decode cX12_oneTest 42 = .ok (.iconst 1, 1) := by decide +kernel
theorem dX12_oneTest_43 : decode cX12_oneTest 43 = .ok (.ireturn, 1) := by decide +kernel
theorem dX12_oneTest_44 : decode cX12_oneTest 44 = .ok (.aload_n 0, 1) := by decide +kernel
theorem dX12_oneTest_45 : decode cX12_oneTest 45 = .ok (.getfield 212, 3) := by decide +kernel
theorem dX12_oneTest_48 : decode cX12_oneTest 48 = .ok (.sipush 140, 3) := by decide +kernel
theorem dX12_oneTest_51 : decode cX12_oneTest 51 = .ok (.if_icmp .ne 41, 3) := by decide +kernel
theorem dX12_oneTest_54 : decode cX12_oneTest 54 = .ok (.aload_n 0, 1) := by decide +kernel
theorem dX12_oneTest_55 : decode cX12_oneTest 55 = .ok (.invokevirtual 262, 3) := by decide +kernel
theorem dX12_oneTest_58 : decode cX12_oneTest 58 = .ok (.ifCond .eq 20, 3) := by decide +kernel
theorem dX12_oneTest_61 : decode cX12_oneTest 61 = .ok (.aload_n 0, 1) := by decide +kernel
theorem dX12_oneTest_62 : decode cX12_oneTest 62 = .ok (.invokevirtual 265, 3) := by decide +kernel
theorem dX12_oneTest_65 : decode cX12_oneTest 65 = .ok (.ifCond .eq 13, 3) := by decide +kernel
theorem dX12_oneTest_68 : decode cX12_oneTest 68 = .ok (.aload_n 0, 1) := by decide +kernel
theorem dX12_oneTest_69 : decode cX12_oneTest 69 = .ok (.sipush 141, 3) := by decide +kernel
theorem dX12_oneTest_72 : decode cX12_oneTest 72 = .ok (.invokevirtual 268, 3) := by decide +kernel
theorem dX12_oneTest_75 : decode cX12_oneTest 75 = .ok (.ifCond .ne 5, 3) := by decide +kernel
theorem dX12_oneTest_78 : decode cX12_oneTest 78 = .ok (.iconst 0, 1) := by decide +kernel
theorem dX12_oneTest_79 : decode cX12_oneTest 79 = .ok (.ireturn, 1) := by decide +kernel
theorem dX12_oneTest_80 : decode cX12_oneTest 80 = .ok (.aload_n 0, 1) := by decide +kernel
theorem dX12_oneTest_81 : decode cX12_oneTest 81 = .ok (.dup, 1) := by decide +kernel
theorem dX12_oneTest_82 : decode cX12_oneTest 82 = .ok (.getfield 242, 3) := by decide +kernel
theorem dX12_oneTest_85 : decode cX12_oneTest 85 = .ok (.iconst 1, 1) := by decide +kernel
theorem dX12_oneTest_86 : decode cX12_oneTest 86 = .ok (.isub, 1) := by decide +kernel
theorem dX12_oneTest_87 : decode cX12_oneTest 87 = .ok (.putfield 242, 3) := by decide +kernel
theorem dX12_oneTest_90 : decode cX12_oneTest 90 = .ok (.iconst 1, 1) := by decide +kernel
theorem dX12_oneTest_91 : decode cX12_oneTest 91 = .ok (.ireturn, 1) := by decide +kernel
theorem dX12_oneTest_92 : decode cX12_oneTest 92 = .ok (.aload_n 0, 1) := by decide +kernel
theorem dX12_oneTest_93 : decode cX12_oneTest 93 = .ok (.invokevirtual 271, 3) := by decide +kernel
theorem dX12_oneTest_96 : decode cX12_oneTest 96 = .ok (.ifCond .ne 5, 3) := by decide +kernel
theorem dX12_oneTest_99 : decode cX12_oneTest 99 = .ok (.iconst 0, 1) := by decide +kernel
theorem dX12_oneTest_100 : decode cX12_oneTest 100 = .ok (.ireturn, 1) := by decide +kernel
theorem dX12_oneTest_101 : decode cX12_oneTest 101 = .ok (.aload_n 0, 1) := by decide +kernel
theorem dX12_oneTest_102 : decode cX12_oneTest 102 = .ok (.getfield 212, 3) := by decide +kernel
theorem dX12_oneTest_105 : decode cX12_oneTest 105 = .ok (.sipush 160, 3) := by decide +kernel
theorem dX12_oneTest_108 : decode cX12_oneTest 108 = .ok (.if_icmp .ne 8, 3) := by decide +kernel
theorem dX12_oneTest_111 : decode cX12_oneTest 111 = .ok (.bipush 27, 2) := by decide +kernel
theorem dX12_oneTest_113 : decode cX12_oneTest 113 = .ok (.goto 34, 3) := by decide +kernel
theorem dX12_oneTest_116 : decode cX12_oneTest 116 = .ok (.aload_n 0, 1) := by decide +kernel
theorem dX12_oneTest_117 : decode cX12_oneTest 117 = .ok (.getfield 212, 3) := by decide +kernel
theorem dX12_oneTest_120 : decode cX12_oneTest 120 = .ok (.sipush 161, 3) := by decide +kernel
theorem dX12_oneTest_123 : decode cX12_oneTest 123 = .ok (.if_icmp .ne 8, 3) := by decide +kernel
theorem dX12_oneTest_126 : decode cX12_oneTest 126 = .ok (.bipush 28, 2) := by decide +kernel
theorem dX12_oneTest_128 : decode cX12_oneTest 128 = .ok (.goto 19, 3) := by decide +kernel
theorem dX12_oneTest_131 : decode cX12_oneTest 131 = .ok (.aload_n 0, 1) := by decide +kernel
theorem dX12_oneTest_132 : decode cX12_oneTest 132 = .ok (.getfield 212, 3) := by decide +kernel
theorem dX12_oneTest_135 : decode cX12_oneTest 135 = .ok (.sipush 162, 3) := by decide +kernel
theorem dX12_oneTest_138 : decode cX12_oneTest 138 = .ok (.if_icmp .ne 8, 3) := by decide +kernel
theorem dX12_oneTest_141 : decode cX12_oneTest 141 = .ok (.bipush 29, 2) := by decide +kernel
theorem dX12_oneTest_143 : decode cX12_oneTest 143 = .ok (.goto 4, 3) := by decide +kernel
theorem dX12_oneTest_146 : decode cX12_oneTest 146 = .ok (.iconst (-1), 1) := by decide +kernel
theorem dX12_oneTest_147 : decode cX12_oneTest 147 = .ok (.istore_n 1, 1) := by decide +kernel
theorem dX12_oneTest_148 : decode cX12_oneTest 148 = .ok (.iload_n 1, 1) := by decide +kernel
theorem dX12_oneTest_149 : decode cX12_oneTest 149 = .ok (.iconst (-1), 1) := by decide +kernel
theorem dX12_oneTest_150 : decode cX12_oneTest 150 = .ok (.if_icmp .ne 9, 3) := by decide +kernel
theorem dX12_oneTest_153 : decode cX12_oneTest 153 = .ok (.aload_n 0, 1) := by decide +kernel
theorem dX12_oneTest_154 : decode cX12_oneTest 154 = .ok (.iconst 1, 1) := by decide +kernel
theorem dX12_oneTest_155 : decode cX12_oneTest 155 = .ok (.invokevirtual 233, 3) := by decide +kernel
theorem dX12_oneTest_158 : decode cX12_oneTest 158 = .ok (.ireturn, 1) := by decide +kernel
theorem dX12_oneTest_159 : decode cX12_oneTest 159 = .ok (.aload_n 0, 1) := by decide +kernel
theorem dX12_oneTest_160 : decode cX12_oneTest 160 = .ok (.invokevirtual 236, 3) := by decide +kernel
theorem dX12_oneTest_163 : decode cX12_oneTest 163 = .ok (.aload_n 0, 1) := by decide +kernel
theorem dX12_oneTest_164 : decode cX12_oneTest 164 = .ok (.invokevirtual 271, 3) := by decide +kernel
theorem dX12_oneTest_167 : decode cX12_oneTest 167 = .ok (.ifCond .ne 5, 3) := by decide +kernel
theorem dX12_oneTest_170 : decode cX12_oneTest 170 = .ok (.iconst 0, 1) := by decide +kernel
theorem dX12_oneTest_171 : decode cX12_oneTest 171 = .ok (.ireturn, 1) := by decide +kernel
theorem dX12_oneTest_172 : decode cX12_oneTest 172 = .ok (.aload_n 0, 1) := by decide +kernel
theorem dX12_oneTest_173 : decode cX12_oneTest 173 = .ok (.iload_n 1, 1) := by decide +kernel
theorem dX12_oneTest_174 : decode cX12_oneTest 174 = .ok (.iconst 0, 1) := by decide +kernel
theorem dX12_oneTest_175 : decode cX12_oneTest 175 = .ok (.invokevirtual 249, 3) := by decide +kernel
theorem dX12_oneTest_178 : decode cX12_oneTest 178 = .ok (.iconst 1, 1) := by decide +kernel
theorem dX12_oneTest_179 : decode cX12_oneTest 179 = .ok (.ireturn, 1) := by decide +kernel
theorem dX12_aLine_0 : decode cX12_aLine 0 = .ok (.aload_n 0, 1) := by decide +kernel
theorem dX12_aLine_1 : decode cX12_aLine 1 = .ok (.getfield 212, 3) := by decide +kernel
theorem dX12_aLine_4 : decode cX12_aLine 4 = .ok (.bipush 20, 2) := by decide +kernel
theorem dX12_aLine_6 : decode cX12_aLine 6 = .ok (.bipush 28, 2) := by decide +kernel
theorem dX12_aLine_8 : decode cX12_aLine 8 = .ok (.invokestatic 71, 3) := by decide +kernel
theorem dX12_aLine_11 : decode cX12_aLine 11 = .ok (.ifCond .ne 9, 3) := by decide +kernel
theorem dX12_aLine_14 : decode cX12_aLine 14 = .ok (.aload_n 0, 1) := by decide +kernel
theorem dX12_aLine_15 : decode cX12_aLine 15 = .ok (.iconst 1, 1) := by decide +kernel
theorem dX12_aLine_16 : decode cX12_aLine 16 = .ok (.invokevirtual 233, 3) := by decide +kernel
theorem dX12_aLine_19 : decode cX12_aLine 19 = .ok (.ireturn, 1) := by decide +kernel
theorem dX12_aLine_20 : decode cX12_aLine 20 = .ok (.aload_n 0, 1) := by decide +kernel
theorem dX12_aLine_21 : decode cX12_aLine 21 = .ok (.getfield 274, 3) := by decide +kernel
theorem dX12_aLine_24 : decode cX12_aLine 24 = .ok (.bipush 16, 2) := by decide +kernel
theorem dX12_aLine_26 : decode cX12_aLine 26 = .ok (.if_icmp .ne 9, 3) := by decide +kernel
theorem dX12_aLine_29 : decode cX12_aLine 29 = .ok (.aload_n 0, 1) := by decide +kernel
theorem dX12_aLine_30 : decode cX12_aLine 30 = .ok (.iconst 3, 1) := by decide +kernel
theorem dX12_aLine_31 : decode cX12_aLine 31 = .ok (.invokevirtual 233, 3) := by decide +kernel
theorem dX12_aLine_34 : decode cX12_aLine 34 = .ok (.ireturn, 1) := by decide +kernel
theorem dX12_aLine_35 : decode cX12_aLine 35 = .ok (.aload_n 0, 1) := by decide +kernel
theorem dX12_aLine_36 : decode cX12_aLine 36 = .ok (.iconst 0, 1) := by decide +kernel
theorem dX12_aLine_37 : decode cX12_aLine 37 = .ok (.putfield 242, 3) := by decide +kernel
theorem dX12_aLine_40 : decode cX12_aLine 40 = .ok (.aload_n 0, 1) := by decide +kernel
theorem dX12_aLine_41 : decode cX12_aLine 41 = .ok (.getfield 19, 3) := by decide +kernel
theorem dX12_aLine_44 : decode cX12_aLine 44 = .ok (.iconst 4, 1) := by decide +kernel
theorem dX12_aLine_45 : decode cX12_aLine 45 = .ok (.aload_n 0, 1) := by decide +kernel
theorem dX12_aLine_46 : decode cX12_aLine 46 = .ok (.getfield 274, 3) := by decide +kernel
theorem dX12_aLine_49 : decode cX12_aLine 49 = .ok (.imul, 1) := by decide +kernel
theorem dX12_aLine_50 : decode cX12_aLine 50 = .ok (.iconst 3, 1) := by decide +kernel
theorem dX12_aLine_51 : decode cX12_aLine 51 = .ok (.iadd, 1) := by decide +kernel
theorem dX12_aLine_52 : decode cX12_aLine 52 = .ok (.aload_n 0, 1) := by decide +kernel
theorem dX12_aLine_53 : decode cX12_aLine 53 = .ok (.getfield 212, 3) := by decide +kernel
theorem dX12_aLine_56 : decode cX12_aLine 56 = .ok (.iastore, 1) := by decide +kernel
theorem dX12_aLine_57 : decode cX12_aLine 57 = .ok (.aload_n 0, 1) := by decide +kernel
theorem dX12_aLine_58 : decode cX12_aLine 58 = .ok (.invokevirtual 236, 3) := by decide +kernel
theorem dX12_aLine_61 : decode cX12_aLine 61 = .ok (.aload_n 0, 1) := by decide +kernel
theorem dX12_aLine_62 : decode cX12_aLine 62 = .ok (.getfield 19, 3) := by decide +kernel
theorem dX12_aLine_65 : decode cX12_aLine 65 = .ok (.iconst 4, 1) := by decide +kernel
theorem dX12_aLine_66 : decode cX12_aLine 66 = .ok (.aload_n 0, 1) := by decide +kernel
theorem dX12_aLine_67 : decode cX12_aLine 67 = .ok (.getfield 274, 3) := by decide +kernel
theorem dX12_aLine_70 : decode cX12_aLine 70 = .ok (.imul, 1) := by decide +kernel
theorem dX12_aLine_71 : decode cX12_aLine 71 = .ok (.aload_n 0, 1) := by decide +kernel
theorem dX12_aLine_72 : decode cX12_aLine 72 = .ok (.getfield 239, 3) := by decide +kernel
theorem dX12_aLine_75 : decode cX12_aLine 75 = .ok (.iastore, 1) := by decide +kernel
theorem dX12_aLine_76 : decode cX12_aLine 76 = .ok (.aload_n 0, 1) := by decide +kernel
theorem dX12_aLine_77 : decode cX12_aLine 77 = .ok (.invokevirtual 271, 3) := by decide +kernel
theorem dX12_aLine_80 : decode cX12_aLine 80 = .ok (.ifCond .ne 5, 3) := by decide +kernel
theorem dX12_aLine_83 : decode cX12_aLine 83 = .ok (.iconst 0, 1) := by decide +kernel
theorem dX12_aLine_84 : decode cX12_aLine 84 = .ok (.ireturn, 1) := by decide +kernel
theorem dX12_aLine_85 : decode cX12_aLine 85 = .ok (.aload_n 0, 1) := by decide +kernel
theorem dX12_aLine_86 : decode cX12_aLine 86 = .ok (.getfield 19, 3) := by decide +kernel
theorem dX12_aLine_89 : decode cX12_aLine 89 = .ok (.iconst 4, 1) := by decide +kernel
theorem dX12_aLine_90 : decode cX12_aLine 90 = .ok (.aload_n 0, 1) := by decide +kernel
theorem dX12_aLine_91 : decode cX12_aLine 91 = .ok (.getfield 274, 3) := by decide +kernel
theorem dX12_aLine_94 : decode cX12_aLine 94 = .ok (.imul, 1) := by decide +kernel
theorem dX12_aLine_95 : decode cX12_aLine 95 = .ok (.iconst 1, 1) := by decide +kernel
theorem dX12_aLine_96 : decode cX12_aLine 96 = .ok (.iadd, 1) := by decide +kernel
theorem dX12_aLine_97 : decode cX12_aLine 97 = .ok (.aload_n 0, 1) := by decide +kernel
theorem dX12_aLine_98 : decode cX12_aLine 98 = .ok (.getfield 239, 3) := by decide +kernel
theorem dX12_aLine_101 : decode cX12_aLine 101 = .ok (.iastore, 1) := by decide +kernel
theorem dX12_aLine_102 : decode cX12_aLine 102 = .ok (.aload_n 0, 1) := by decide +kernel
theorem dX12_aLine_103 : decode cX12_aLine 103 = .ok (.getfield 212, 3) := by decide +kernel
theorem dX12_aLine_106 : decode cX12_aLine 106 = .ok (.iconst 3, 1) := by decide +kernel
theorem dX12_aLine_107 : decode cX12_aLine 107 = .ok (.if_icmp .ne 16, 3) := by decide +kernel
theorem dX12_aLine_110 : decode cX12_aLine 110 = .ok (.aload_n 0, 1) := by decide +kernel
theorem dX12_aLine_111 : decode cX12_aLine 111 = .ok (.invokevirtual 236, 3) := by decide +kernel
theorem dX12_aLine_114 : decode cX12_aLine 114 = .ok (.aload_n 0, 1) := by decide +kernel
theorem dX12_aLine_115 : decode cX12_aLine 115 = .ok (.invokevirtual 265, 3) := by decide +kernel
theorem dX12_aLine_118 : decode cX12_aLine 118 = .ok (.ifCond .ne 5, 3) := by decide +kernel
theorem dX12_aLine_121 : decode cX12_aLine 121 = .ok (.iconst 0, 1) := by decide +kernel
theorem dX12_aLine_122 : decode cX12_aLine 122 = .ok (.ireturn, 1) := by decide +kernel
theorem dX12_aLine_123 : decode cX12_aLine 123 = .ok (.aload_n 0, 1) := by decide +kernel
theorem dX12_aLine_124 : decode cX12_aLine 124 = .ok (.getfield 19, 3) := by decide +kernel
theorem dX12_aLine_127 : decode cX12_aLine 127 = .ok (.iconst 4, 1) := by decide +kernel
theorem dX12_aLine_128 : decode cX12_aLine 128 = .ok (.aload_n 0, 1) := by decide +kernel
theorem dX12_aLine_129 : decode cX12_aLine 129 = .ok (.getfield 274, 3) := by decide +kernel
theorem dX12_aLine_132 : decode cX12_aLine 132 = .ok (.imul, 1) := by decide +kernel
theorem dX12_aLine_133 : decode cX12_aLine 133 = .ok (.iconst 2, 1) := by decide +kernel
theorem dX12_aLine_134 : decode cX12_aLine 134 = .ok (.iadd, 1) := by decide +kernel
theorem dX12_aLine_135 : decode cX12_aLine 135 = .ok (.aload_n 0, 1) := by decide +kernel
theorem dX12_aLine_136 : decode cX12_aLine 136 = .ok (.getfield 239, 3) := by decide +kernel
theorem dX12_aLine_139 : decode cX12_aLine 139 = .ok (.iastore, 1) := by decide +kernel
theorem dX12_aLine_140 : decode cX12_aLine 140 = .ok (.aload_n 0, 1) := by decide +kernel
theorem dX12_aLine_141 : decode cX12_aLine 141 = .ok (.sipush 159, 3) := by decide +kernel
theorem dX12_aLine_144 : decode cX12_aLine 144 = .ok (.invokevirtual 268, 3) := by decide +kernel
theorem dX12_aLine_147 : decode cX12_aLine 147 = .ok (.ireturn, 1) := by decide +kernel
theorem dX12_readsLaw_0 : decode cX12_readsLaw 0 = .ok (.aload_n 0, 1) := by decide +kernel
theorem dX12_readsLaw_1 : decode cX12_readsLaw 1 = .ok (.iconst 0, 1) := by decide +kernel
theorem dX12_readsLaw_2 : decode cX12_readsLaw 2 = .ok (.putfield 274, 3) := by decide +kernel
theorem dX12_readsLaw_5 : decode cX12_readsLaw 5 = .ok (.aload_n 0, 1) := by decide +kernel
theorem dX12_readsLaw_6 : decode cX12_readsLaw 6 = .ok (.iconst 0, 1) := by decide +kernel
theorem dX12_readsLaw_7 : decode cX12_readsLaw 7 = .ok (.putfield 239, 3) := by decide +kernel
theorem dX12_readsLaw_10 : decode cX12_readsLaw 10 = .ok (.iconst 1, 1) := by decide +kernel
theorem dX12_readsLaw_11 : decode cX12_readsLaw 11 = .ok (.istore_n 1, 1) := by decide +kernel
theorem dX12_readsLaw_12 : decode cX12_readsLaw 12 = .ok (.iload_n 1, 1) := by decide +kernel
theorem dX12_readsLaw_13 : decode cX12_readsLaw 13 = .ok (.ifCond .eq 36, 3) := by decide +kernel
theorem dX12_readsLaw_16 : decode cX12_readsLaw 16 = .ok (.aload_n 0, 1) := by decide +kernel
theorem dX12_readsLaw_17 : decode cX12_readsLaw 17 = .ok (.getfield 212, 3) := by decide +kernel
theorem dX12_readsLaw_20 : decode cX12_readsLaw 20 = .ok (.ifCond .eq 29, 3) := by decide +kernel
theorem dX12_readsLaw_23 : decode cX12_readsLaw 23 = .ok (.aload_n 0, 1) := by decide +kernel
theorem dX12_readsLaw_24 : decode cX12_readsLaw 24 = .ok (.invokevirtual 277, 3) := by decide +kernel
theorem dX12_readsLaw_27 : decode cX12_readsLaw 27 = .ok (.istore_n 1, 1) := by decide +kernel
theorem dX12_readsLaw_28 : decode cX12_readsLaw 28 = .ok (.aload_n 0, 1) := by decide +kernel
theorem dX12_readsLaw_29 : decode cX12_readsLaw 29 = .ok (.dup, 1) := by decide +kernel
theorem dX12_readsLaw_30 : decode cX12_readsLaw 30 = .ok (.getfield 274, 3) := by decide +kernel
theorem dX12_readsLaw_33 : decode cX12_readsLaw 33 = .ok (.iload_n 1, 1) := by decide +kernel
theorem dX12_readsLaw_34 : decode cX12_readsLaw 34 = .ok (.ifCond .eq 7, 3) := by decide +kernel
theorem dX12_readsLaw_37 : decode cX12_readsLaw 37 = .ok (.iconst 1, 1) := by decide +kernel
theorem dX12_readsLaw_38 : decode cX12_readsLaw 38 = .ok (.goto 4, 3) := by decide +kernel
theorem dX12_readsLaw_41 : decode cX12_readsLaw 41 = .ok (.iconst 0, 1) := by decide +kernel
theorem dX12_readsLaw_42 : decode cX12_readsLaw 42 = .ok (.iadd, 1) := by decide +kernel
theorem dX12_readsLaw_43 : decode cX12_readsLaw 43 = .ok (.putfield 274, 3) := by decide +kernel
theorem dX12_readsLaw_46 : decode cX12_readsLaw 46 = .ok (.goto (-34), 3) := by decide +kernel
theorem dX12_readsLaw_49 : decode cX12_readsLaw 49 = .ok (.iload_n 1, 1) := by decide +kernel
theorem dX12_readsLaw_50 : decode cX12_readsLaw 50 = .ok (.ireturn, 1) := by decide +kernel
theorem dX12_number_0 : decode cX12_number 0 = .ok (.aload_n 0, 1) := by decide +kernel
theorem dX12_number_1 : decode cX12_number 1 = .ok (.getfield 212, 3) := by decide +kernel
theorem dX12_number_4 : decode cX12_number 4 = .ok (.iconst 2, 1) := by decide +kernel
theorem dX12_number_5 : decode cX12_number 5 = .ok (.if_icmp .eq 9, 3) := by decide +kernel
theorem dX12_number_8 : decode cX12_number 8 = .ok (.aload_n 0, 1) := by decide +kernel
theorem dX12_number_9 : decode cX12_number 9 = .ok (.iconst 1, 1) := by decide +kernel
theorem dX12_number_10 : decode cX12_number 10 = .ok (.invokevirtual 233, 3) := by decide +kernel
theorem dX12_number_13 : decode cX12_number 13 = .ok (.ireturn, 1) := by decide +kernel
theorem dX12_number_14 : decode cX12_number 14 = .ok (.aload_n 0, 1) := by decide +kernel
theorem dX12_number_15 : decode cX12_number 15 = .ok (.getfield 224, 3) := by decide +kernel
theorem dX12_number_18 : decode cX12_number 18 = .ok (.iload_n 1, 1) := by decide +kernel
theorem dX12_number_19 : decode cX12_number 19 = .ok (.iload_n 2, 1) := by decide +kernel
theorem dX12_number_20 : decode cX12_number 20 = .ok (.invokestatic 71, 3) := by decide +kernel
theorem dX12_number_23 : decode cX12_number 23 = .ok (.ifCond .ne 9, 3) := by decide +kernel
theorem dX12_number_26 : decode cX12_number 26 = .ok (.aload_n 0, 1) := by decide +kernel
theorem dX12_number_27 : decode cX12_number 27 = .ok (.iconst 2, 1) := by decide +kernel
theorem dX12_number_28 : decode cX12_number 28 = .ok (.invokevirtual 233, 3) := by decide +kernel
theorem dX12_number_31 : decode cX12_number 31 = .ok (.ireturn, 1) := by decide +kernel
theorem dX12_number_32 : decode cX12_number 32 = .ok (.aload_n 0, 1) := by decide +kernel
theorem dX12_number_33 : decode cX12_number 33 = .ok (.aload_n 0, 1) := by decide +kernel
theorem dX12_number_34 : decode cX12_number 34 = .ok (.getfield 224, 3) := by decide +kernel
theorem dX12_number_37 : decode cX12_number 37 = .ok (.putfield 280, 3) := by decide +kernel
theorem dX12_number_40 : decode cX12_number 40 = .ok (.aload_n 0, 1) := by decide +kernel
theorem dX12_number_41 : decode cX12_number 41 = .ok (.invokevirtual 236, 3) := by decide +kernel
theorem dX12_number_44 : decode cX12_number 44 = .ok (.iconst 1, 1) := by decide +kernel
theorem dX12_number_45 : decode cX12_number 45 = .ok (.ireturn, 1) := by decide +kernel
theorem dX12_told_0 : decode cX12_told 0 = .ok (.aload_n 0, 1) := by decide +kernel
theorem dX12_told_1 : decode cX12_told 1 = .ok (.iload_n 2, 1) := by decide +kernel
theorem dX12_told_2 : decode cX12_told 2 = .ok (.invokevirtual 268, 3) := by decide +kernel
theorem dX12_told_5 : decode cX12_told 5 = .ok (.ifCond .eq 12, 3) := by decide +kernel
theorem dX12_told_8 : decode cX12_told 8 = .ok (.aload_n 0, 1) := by decide +kernel
theorem dX12_told_9 : decode cX12_told 9 = .ok (.iconst 0, 1) := by decide +kernel
theorem dX12_told_10 : decode cX12_told 10 = .ok (.iload_n 3, 1) := by decide +kernel
theorem dX12_told_11 : decode cX12_told 11 = .ok (.invokevirtual 283, 3) := by decide +kernel
theorem dX12_told_14 : decode cX12_told 14 = .ok (.ifCond .ne 5, 3) := by decide +kernel
theorem dX12_told_17 : decode cX12_told 17 = .ok (.iconst 0, 1) := by decide +kernel
theorem dX12_told_18 : decode cX12_told 18 = .ok (.ireturn, 1) := by decide +kernel
theorem dX12_told_19 : decode cX12_told 19 = .ok (.aload_n 0, 1) := by decide +kernel
theorem dX12_told_20 : decode cX12_told 20 = .ok (.getfield 25, 3) := by decide +kernel
theorem dX12_told_23 : decode cX12_told 23 = .ok (.iconst 5, 1) := by decide +kernel
theorem dX12_told_24 : decode cX12_told 24 = .ok (.aload_n 0, 1) := by decide +kernel
theorem dX12_told_25 : decode cX12_told 25 = .ok (.getfield 287, 3) := by decide +kernel
theorem dX12_told_28 : decode cX12_told 28 = .ok (.imul, 1) := by decide +kernel
theorem dX12_told_29 : decode cX12_told 29 = .ok (.iload_n 1, 1) := by decide +kernel
theorem dX12_told_30 : decode cX12_told 30 = .ok (.iadd, 1) := by decide +kernel
theorem dX12_told_31 : decode cX12_told 31 = .ok (.aload_n 0, 1) := by decide +kernel
theorem dX12_told_32 : decode cX12_told 32 = .ok (.getfield 280, 3) := by decide +kernel
theorem dX12_told_35 : decode cX12_told 35 = .ok (.iastore, 1) := by decide +kernel
theorem dX12_told_36 : decode cX12_told 36 = .ok (.iconst 1, 1) := by decide +kernel
theorem dX12_told_37 : decode cX12_told 37 = .ok (.ireturn, 1) := by decide +kernel
theorem dX12_aThrow_0 : decode cX12_aThrow 0 = .ok (.aload_n 0, 1) := by decide +kernel
theorem dX12_aThrow_1 : decode cX12_aThrow 1 = .ok (.iconst 0, 1) := by decide +kernel
theorem dX12_aThrow_2 : decode cX12_aThrow 2 = .ok (.bipush 7, 2) := by decide +kernel
theorem dX12_aThrow_4 : decode cX12_aThrow 4 = .ok (.bipush 99, 2) := by decide +kernel
theorem dX12_aThrow_6 : decode cX12_aThrow 6 = .ok (.invokevirtual 290, 3) := by decide +kernel
theorem dX12_aThrow_9 : decode cX12_aThrow 9 = .ok (.ifCond .eq 34, 3) := by decide +kernel
theorem dX12_aThrow_12 : decode cX12_aThrow 12 = .ok (.aload_n 0, 1) := by decide +kernel
theorem dX12_aThrow_13 : decode cX12_aThrow 13 = .ok (.iconst 1, 1) := by decide +kernel
theorem dX12_aThrow_14 : decode cX12_aThrow 14 = .ok (.bipush 9, 2) := by decide +kernel
theorem dX12_aThrow_16 : decode cX12_aThrow 16 = .ok (.bipush 60, 2) := by decide +kernel
theorem dX12_aThrow_18 : decode cX12_aThrow 18 = .ok (.invokevirtual 290, 3) := by decide +kernel
theorem dX12_aThrow_21 : decode cX12_aThrow 21 = .ok (.ifCond .eq 22, 3) := by decide +kernel
theorem dX12_aThrow_24 : decode cX12_aThrow 24 = .ok (.aload_n 0, 1) := by decide +kernel
theorem dX12_aThrow_25 : decode cX12_aThrow 25 = .ok (.iconst 2, 1) := by decide +kernel
theorem dX12_aThrow_26 : decode cX12_aThrow 26 = .ok (.bipush 10, 2) := by decide +kernel
theorem dX12_aThrow_28 : decode cX12_aThrow 28 = .ok (.aload_n 0, 1) := by decide +kernel
theorem dX12_aThrow_29 : decode cX12_aThrow 29 = .ok (.getfield 7, 3) := by decide +kernel
theorem dX12_aThrow_32 : decode cX12_aThrow 32 = .ok (.bipush 67, 2) := by decide +kernel
theorem dX12_aThrow_34 : decode cX12_aThrow 34 = .ok (.iaload, 1) := by decide +kernel
theorem dX12_aThrow_35 : decode cX12_aThrow 35 = .ok (.iconst 1, 1) := by decide +kernel
theorem dX12_aThrow_36 : decode cX12_aThrow 36 = .ok (.isub, 1) := by decide +kernel
theorem dX12_aThrow_37 : decode cX12_aThrow 37 = .ok (.invokevirtual 290, 3) := by decide +kernel
theorem dX12_aThrow_40 : decode cX12_aThrow 40 = .ok (.ifCond .ne 5, 3) := by decide +kernel
theorem dX12_aThrow_43 : decode cX12_aThrow 43 = .ok (.iconst 0, 1) := by decide +kernel
theorem dX12_aThrow_44 : decode cX12_aThrow 44 = .ok (.ireturn, 1) := by decide +kernel
theorem dX12_aThrow_45 : decode cX12_aThrow 45 = .ok (.aload_n 0, 1) := by decide +kernel
theorem dX12_aThrow_46 : decode cX12_aThrow 46 = .ok (.getfield 212, 3) := by decide +kernel
theorem dX12_aThrow_49 : decode cX12_aThrow 49 = .ok (.bipush 11, 2) := by decide +kernel
theorem dX12_aThrow_51 : decode cX12_aThrow 51 = .ok (.if_icmp .ne 17, 3) := by decide +kernel
theorem dX12_aThrow_54 : decode cX12_aThrow 54 = .ok (.aload_n 0, 1) := by decide +kernel
theorem dX12_aThrow_55 : decode cX12_aThrow 55 = .ok (.iconst 3, 1) := by decide +kernel
theorem dX12_aThrow_56 : decode cX12_aThrow 56 = .ok (.bipush 11, 2) := by decide +kernel
theorem dX12_aThrow_58 : decode cX12_aThrow 58 = .ok (.bipush 9, 2) := by decide +kernel
theorem dX12_aThrow_60 : decode cX12_aThrow 60 = .ok (.invokevirtual 290, 3) := by decide +kernel
theorem dX12_aThrow_63 : decode cX12_aThrow 63 = .ok (.ifCond .ne 5, 3) := by decide +kernel
theorem dX12_aThrow_66 : decode cX12_aThrow 66 = .ok (.iconst 0, 1) := by decide +kernel
theorem dX12_aThrow_67 : decode cX12_aThrow 67 = .ok (.ireturn, 1) := by decide +kernel
theorem dX12_aThrow_68 : decode cX12_aThrow 68 = .ok (.aload_n 0, 1) := by decide +kernel
theorem dX12_aThrow_69 : decode cX12_aThrow 69 = .ok (.getfield 212, 3) := by decide +kernel
theorem dX12_aThrow_72 : decode cX12_aThrow 72 = .ok (.bipush 12, 2) := by decide +kernel
theorem dX12_aThrow_74 : decode cX12_aThrow 74 = .ok (.if_icmp .ne 16, 3) := by decide +kernel
theorem dX12_aThrow_77 : decode cX12_aThrow 77 = .ok (.aload_n 0, 1) := by decide +kernel
theorem dX12_aThrow_78 : decode cX12_aThrow 78 = .ok (.iconst 4, 1) := by decide +kernel
theorem dX12_aThrow_79 : decode cX12_aThrow 79 = .ok (.bipush 12, 2) := by decide +kernel
theorem dX12_aThrow_81 : decode cX12_aThrow 81 = .ok (.sipush 9999, 3) := by decide +kernel
theorem dX12_aThrow_84 : decode cX12_aThrow 84 = .ok (.invokevirtual 290, 3) := by decide +kernel
theorem dX12_aThrow_87 : decode cX12_aThrow 87 = .ok (.ifCond .eq 7, 3) := by decide +kernel
theorem dX12_aThrow_90 : decode cX12_aThrow 90 = .ok (.iconst 1, 1) := by decide +kernel
theorem dX12_aThrow_91 : decode cX12_aThrow 91 = .ok (.goto 4, 3) := by decide +kernel
theorem dX12_aThrow_94 : decode cX12_aThrow 94 = .ok (.iconst 0, 1) := by decide +kernel
theorem dX12_aThrow_95 : decode cX12_aThrow 95 = .ok (.ireturn, 1) := by decide +kernel
theorem dX12_anOrder_0 : decode cX12_anOrder 0 = .ok (.aload_n 0, 1) := by decide +kernel
theorem dX12_anOrder_1 : decode cX12_anOrder 1 = .ok (.getfield 212, 3) := by decide +kernel
theorem dX12_anOrder_4 : decode cX12_anOrder 4 = .ok (.bipush 7, 2) := by decide +kernel
theorem dX12_anOrder_6 : decode cX12_anOrder 6 = .ok (.if_icmp .eq 18, 3) := by decide +kernel
theorem dX12_anOrder_9 : decode cX12_anOrder 9 = .ok (.aload_n 0, 1) := by decide +kernel
theorem dX12_anOrder_10 : decode cX12_anOrder 10 = .ok (.getfield 212, 3) := by decide +kernel
theorem dX12_anOrder_13 : decode cX12_anOrder 13 = .ok (.bipush 8, 2) := by decide +kernel
theorem dX12_anOrder_15 : decode cX12_anOrder 15 = .ok (.if_icmp .eq 9, 3) := by decide +kernel
theorem dX12_anOrder_18 : decode cX12_anOrder 18 = .ok (.aload_n 0, 1) := by decide +kernel
theorem dX12_anOrder_19 : decode cX12_anOrder 19 = .ok (.iconst 1, 1) := by decide +kernel
theorem dX12_anOrder_20 : decode cX12_anOrder 20 = .ok (.invokevirtual 233, 3) := by decide +kernel
theorem dX12_anOrder_23 : decode cX12_anOrder 23 = .ok (.ireturn, 1) := by decide +kernel
theorem dX12_anOrder_24 : decode cX12_anOrder 24 = .ok (.aload_n 0, 1) := by decide +kernel
theorem dX12_anOrder_25 : decode cX12_anOrder 25 = .ok (.getfield 287, 3) := by decide +kernel
theorem dX12_anOrder_28 : decode cX12_anOrder 28 = .ok (.bipush 12, 2) := by decide +kernel
theorem dX12_anOrder_30 : decode cX12_anOrder 30 = .ok (.if_icmp .ne 9, 3) := by decide +kernel
theorem dX12_anOrder_33 : decode cX12_anOrder 33 = .ok (.aload_n 0, 1) := by decide +kernel
theorem dX12_anOrder_34 : decode cX12_anOrder 34 = .ok (.iconst 3, 1) := by decide +kernel
theorem dX12_anOrder_35 : decode cX12_anOrder 35 = .ok (.invokevirtual 233, 3) := by decide +kernel
theorem dX12_anOrder_38 : decode cX12_anOrder 38 = .ok (.ireturn, 1) := by decide +kernel
theorem dX12_anOrder_39 : decode cX12_anOrder 39 = .ok (.iconst 5, 1) := by decide +kernel
theorem dX12_anOrder_40 : decode cX12_anOrder 40 = .ok (.aload_n 0, 1) := by decide +kernel
theorem dX12_anOrder_41 : decode cX12_anOrder 41 = .ok (.getfield 287, 3) := by decide +kernel
theorem dX12_anOrder_44 : decode cX12_anOrder 44 = .ok (.imul, 1) := by decide +kernel
theorem dX12_anOrder_45 : decode cX12_anOrder 45 = .ok (.istore_n 1, 1) := by decide +kernel
theorem dX12_anOrder_46 : decode cX12_anOrder 46 = .ok (.aload_n 0, 1) := by decide +kernel
theorem dX12_anOrder_47 : decode cX12_anOrder 47 = .ok (.getfield 25, 3) := by decide +kernel
theorem dX12_anOrder_50 : decode cX12_anOrder 50 = .ok (.iload_n 1, 1) := by decide +kernel
theorem dX12_anOrder_51 : decode cX12_anOrder 51 = .ok (.iconst (-1), 1) := by decide +kernel
theorem dX12_anOrder_52 : decode cX12_anOrder 52 = .ok (.iastore, 1) := by decide +kernel
theorem dX12_anOrder_53 : decode cX12_anOrder 53 = .ok (.aload_n 0, 1) := by decide +kernel
theorem dX12_anOrder_54 : decode cX12_anOrder 54 = .ok (.getfield 25, 3) := by decide +kernel
theorem dX12_anOrder_57 : decode cX12_anOrder 57 = .ok (.iload_n 1, 1) := by decide +kernel
theorem dX12_anOrder_58 : decode cX12_anOrder 58 = .ok (.iconst 3, 1) := by decide +kernel
theorem dX12_anOrder_59 : decode cX12_anOrder 59 = .ok (.iadd, 1) := by decide +kernel
theorem dX12_anOrder_60 : decode cX12_anOrder 60 = .ok (.iconst 0, 1) := by decide +kernel
theorem dX12_anOrder_61 : decode cX12_anOrder 61 = .ok (.iastore, 1) := by decide +kernel
theorem dX12_anOrder_62 : decode cX12_anOrder 62 = .ok (.aload_n 0, 1) := by decide +kernel
theorem dX12_anOrder_63 : decode cX12_anOrder 63 = .ok (.getfield 25, 3) := by decide +kernel
theorem dX12_anOrder_66 : decode cX12_anOrder 66 = .ok (.iload_n 1, 1) := by decide +kernel
theorem dX12_anOrder_67 : decode cX12_anOrder 67 = .ok (.iconst 4, 1) := by decide +kernel
theorem dX12_anOrder_68 : decode cX12_anOrder 68 = .ok (.iadd, 1) := by decide +kernel
theorem dX12_anOrder_69 : decode cX12_anOrder 69 = .ok (.iconst (-1), 1) := by decide +kernel
theorem dX12_anOrder_70 : decode cX12_anOrder 70 = .ok (.iastore, 1) := by decide +kernel
theorem dX12_anOrder_71 : decode cX12_anOrder 71 = .ok (.aload_n 0, 1) := by decide +kernel
theorem dX12_anOrder_72 : decode cX12_anOrder 72 = .ok (.getfield 212, 3) := by decide +kernel
theorem dX12_anOrder_75 : decode cX12_anOrder 75 = .ok (.bipush 8, 2) := by decide +kernel
theorem dX12_anOrder_77 : decode cX12_anOrder 77 = .ok (.if_icmp .ne 10, 3) := by decide +kernel
theorem dX12_anOrder_80 : decode cX12_anOrder 80 = .ok (.aload_n 0, 1) := by decide +kernel
theorem dX12_anOrder_81 : decode cX12_anOrder 81 = .ok (.invokevirtual 236, 3) := by decide +kernel
theorem dX12_anOrder_84 : decode cX12_anOrder 84 = .ok (.goto 12, 3) := by decide +kernel
theorem dX12_anOrder_87 : decode cX12_anOrder 87 = .ok (.aload_n 0, 1) := by decide +kernel
theorem dX12_anOrder_88 : decode cX12_anOrder 88 = .ok (.invokevirtual 293, 3) := by decide +kernel
theorem dX12_anOrder_91 : decode cX12_anOrder 91 = .ok (.ifCond .ne 5, 3) := by decide +kernel
theorem dX12_anOrder_94 : decode cX12_anOrder 94 = .ok (.iconst 0, 1) := by decide +kernel
theorem dX12_anOrder_95 : decode cX12_anOrder 95 = .ok (.ireturn, 1) := by decide +kernel
theorem dX12_anOrder_96 : decode cX12_anOrder 96 = .ok (.aload_n 0, 1) := by decide +kernel
theorem dX12_anOrder_97 : decode cX12_anOrder 97 = .ok (.sipush 159, 3) := by decide +kernel
theorem dX12_anOrder_100 : decode cX12_anOrder 100 = .ok (.invokevirtual 268, 3) := by decide +kernel
theorem dX12_anOrder_103 : decode cX12_anOrder 103 = .ok (.ifCond .ne 5, 3) := by decide +kernel
theorem dX12_anOrder_106 : decode cX12_anOrder 106 = .ok (.iconst 0, 1) := by decide +kernel
theorem dX12_anOrder_107 : decode cX12_anOrder 107 = .ok (.ireturn, 1) := by decide +kernel
theorem dX12_anOrder_108 : decode cX12_anOrder 108 = .ok (.aload_n 0, 1) := by decide +kernel
theorem dX12_anOrder_109 : decode cX12_anOrder 109 = .ok (.dup, 1) := by decide +kernel
theorem dX12_anOrder_110 : decode cX12_anOrder 110 = .ok (.getfield 287, 3) := by decide +kernel
theorem dX12_anOrder_113 : decode cX12_anOrder 113 = .ok (.iconst 1, 1) := by decide +kernel
theorem dX12_anOrder_114 : decode cX12_anOrder 114 = .ok (.iadd, 1) := by decide +kernel
theorem dX12_anOrder_115 : decode cX12_anOrder 115 = .ok (.putfield 287, 3) := by decide +kernel
theorem dX12_anOrder_118 : decode cX12_anOrder 118 = .ok (.iconst 1, 1) := by decide +kernel
theorem dX12_anOrder_119 : decode cX12_anOrder 119 = .ok (.ireturn, 1) := by decide +kernel
theorem dX12_readsPlan_0 : decode cX12_readsPlan 0 = .ok (.aload_n 0, 1) := by decide +kernel
theorem dX12_readsPlan_1 : decode cX12_readsPlan 1 = .ok (.iconst 0, 1) := by decide +kernel
theorem dX12_readsPlan_2 : decode cX12_readsPlan 2 = .ok (.putfield 287, 3) := by decide +kernel
theorem dX12_readsPlan_5 : decode cX12_readsPlan 5 = .ok (.iconst 1, 1) := by decide +kernel
theorem dX12_readsPlan_6 : decode cX12_readsPlan 6 = .ok (.istore_n 1, 1) := by decide +kernel
theorem dX12_readsPlan_7 : decode cX12_readsPlan 7 = .ok (.iload_n 1, 1) := by decide +kernel
theorem dX12_readsPlan_8 : decode cX12_readsPlan 8 = .ok (.ifCond .eq 18, 3) := by decide +kernel
theorem dX12_readsPlan_11 : decode cX12_readsPlan 11 = .ok (.aload_n 0, 1) := by decide +kernel
theorem dX12_readsPlan_12 : decode cX12_readsPlan 12 = .ok (.getfield 212, 3) := by decide +kernel
theorem dX12_readsPlan_15 : decode cX12_readsPlan 15 = .ok (.ifCond .eq 11, 3) := by decide +kernel
theorem dX12_readsPlan_18 : decode cX12_readsPlan 18 = .ok (.aload_n 0, 1) := by decide +kernel
theorem dX12_readsPlan_19 : decode cX12_readsPlan 19 = .ok (.invokevirtual 296, 3) := by decide +kernel
theorem dX12_readsPlan_22 : decode cX12_readsPlan 22 = .ok (.istore_n 1, 1) := by decide +kernel
theorem dX12_readsPlan_23 : decode cX12_readsPlan 23 = .ok (.goto (-16), 3) := by decide +kernel
theorem dX12_readsPlan_26 : decode cX12_readsPlan 26 = .ok (.iload_n 1, 1) := by decide +kernel
theorem dX12_readsPlan_27 : decode cX12_readsPlan 27 = .ok (.ireturn, 1) := by decide +kernel
theorem dX12_putsLaw_0 : decode cX12_putsLaw 0 = .ok (.aload_n 0, 1) := by decide +kernel
theorem dX12_putsLaw_1 : decode cX12_putsLaw 1 = .ok (.getfield 7, 3) := by decide +kernel
theorem dX12_putsLaw_4 : decode cX12_putsLaw 4 = .ok (.sipush 640, 3) := by decide +kernel
theorem dX12_putsLaw_7 : decode cX12_putsLaw 7 = .ok (.iload_n 1, 1) := by decide +kernel
theorem dX12_putsLaw_8 : decode cX12_putsLaw 8 = .ok (.iadd, 1) := by decide +kernel
theorem dX12_putsLaw_9 : decode cX12_putsLaw 9 = .ok (.aload_n 0, 1) := by decide +kernel
theorem dX12_putsLaw_10 : decode cX12_putsLaw 10 = .ok (.getfield 274, 3) := by decide +kernel
theorem dX12_putsLaw_13 : decode cX12_putsLaw 13 = .ok (.iastore, 1) := by decide +kernel
theorem dX12_putsLaw_14 : decode cX12_putsLaw 14 = .ok (.iconst 0, 1) := by decide +kernel
theorem dX12_putsLaw_15 : decode cX12_putsLaw 15 = .ok (.istore_n 2, 1) := by decide +kernel
theorem dX12_putsLaw_16 : decode cX12_putsLaw 16 = .ok (.iload_n 2, 1) := by decide +kernel
theorem dX12_putsLaw_17 : decode cX12_putsLaw 17 = .ok (.aload_n 0, 1) := by decide +kernel
theorem dX12_putsLaw_18 : decode cX12_putsLaw 18 = .ok (.getfield 274, 3) := by decide +kernel
theorem dX12_putsLaw_21 : decode cX12_putsLaw 21 = .ok (.if_icmp .ge 107, 3) := by decide +kernel
theorem dX12_putsLaw_24 : decode cX12_putsLaw 24 = .ok (.aload_n 0, 1) := by decide +kernel
theorem dX12_putsLaw_25 : decode cX12_putsLaw 25 = .ok (.getfield 7, 3) := by decide +kernel
theorem dX12_putsLaw_28 : decode cX12_putsLaw 28 = .ok (.sipush 644, 3) := by decide +kernel
theorem dX12_putsLaw_31 : decode cX12_putsLaw 31 = .ok (.bipush 16, 2) := by decide +kernel
theorem dX12_putsLaw_33 : decode cX12_putsLaw 33 = .ok (.iload_n 1, 1) := by decide +kernel
theorem dX12_putsLaw_34 : decode cX12_putsLaw 34 = .ok (.imul, 1) := by decide +kernel
theorem dX12_putsLaw_35 : decode cX12_putsLaw 35 = .ok (.iadd, 1) := by decide +kernel
theorem dX12_putsLaw_36 : decode cX12_putsLaw 36 = .ok (.iload_n 2, 1) := by decide +kernel
theorem dX12_putsLaw_37 : decode cX12_putsLaw 37 = .ok (.iadd, 1) := by decide +kernel
theorem dX12_putsLaw_38 : decode cX12_putsLaw 38 = .ok (.aload_n 0, 1) := by decide +kernel
theorem dX12_putsLaw_39 : decode cX12_putsLaw 39 = .ok (.getfield 19, 3) := by decide +kernel
theorem dX12_putsLaw_42 : decode cX12_putsLaw 42 = .ok (.iconst 4, 1) := by decide +kernel
theorem dX12_putsLaw_43 : decode cX12_putsLaw 43 = .ok (.iload_n 2, 1) := by decide +kernel
theorem dX12_putsLaw_44 : decode cX12_putsLaw 44 = .ok (.imul, 1) := by decide +kernel
theorem dX12_putsLaw_45 : decode cX12_putsLaw 45 = .ok (.iaload, 1) := by decide +kernel
theorem dX12_putsLaw_46 : decode cX12_putsLaw 46 = .ok (.iastore, 1) := by decide +kernel
theorem dX12_putsLaw_47 : decode cX12_putsLaw 47 = .ok (.aload_n 0, 1) := by decide +kernel
theorem dX12_putsLaw_48 : decode cX12_putsLaw 48 = .ok (.getfield 7, 3) := by decide +kernel
theorem dX12_putsLaw_51 : decode cX12_putsLaw 51 = .ok (.sipush 692, 3) := by decide +kernel
theorem dX12_putsLaw_54 : decode cX12_putsLaw 54 = .ok (.bipush 16, 2) := by decide +kernel
theorem dX12_putsLaw_56 : decode cX12_putsLaw 56 = .ok (.iload_n 1, 1) := by decide +kernel
theorem dX12_putsLaw_57 : decode cX12_putsLaw 57 = .ok (.imul, 1) := by decide +kernel
theorem dX12_putsLaw_58 : decode cX12_putsLaw 58 = .ok (.iadd, 1) := by decide +kernel
theorem dX12_putsLaw_59 : decode cX12_putsLaw 59 = .ok (.iload_n 2, 1) := by decide +kernel
theorem dX12_putsLaw_60 : decode cX12_putsLaw 60 = .ok (.iadd, 1) := by decide +kernel
theorem dX12_putsLaw_61 : decode cX12_putsLaw 61 = .ok (.aload_n 0, 1) := by decide +kernel
theorem dX12_putsLaw_62 : decode cX12_putsLaw 62 = .ok (.getfield 19, 3) := by decide +kernel
theorem dX12_putsLaw_65 : decode cX12_putsLaw 65 = .ok (.iconst 4, 1) := by decide +kernel
theorem dX12_putsLaw_66 : decode cX12_putsLaw 66 = .ok (.iload_n 2, 1) := by decide +kernel
theorem dX12_putsLaw_67 : decode cX12_putsLaw 67 = .ok (.imul, 1) := by decide +kernel
theorem dX12_putsLaw_68 : decode cX12_putsLaw 68 = .ok (.iconst 1, 1) := by decide +kernel
theorem dX12_putsLaw_69 : decode cX12_putsLaw 69 = .ok (.iadd, 1) := by decide +kernel
theorem dX12_putsLaw_70 : decode cX12_putsLaw 70 = .ok (.iaload, 1) := by decide +kernel
theorem dX12_putsLaw_71 : decode cX12_putsLaw 71 = .ok (.iastore, 1) := by decide +kernel
theorem dX12_putsLaw_72 : decode cX12_putsLaw 72 = .ok (.aload_n 0, 1) := by decide +kernel
theorem dX12_putsLaw_73 : decode cX12_putsLaw 73 = .ok (.getfield 7, 3) := by decide +kernel
theorem dX12_putsLaw_76 : decode cX12_putsLaw 76 = .ok (.sipush 740, 3) := by decide +kernel
theorem dX12_putsLaw_79 : decode cX12_putsLaw 79 = .ok (.bipush 16, 2) := by decide +kernel
theorem dX12_putsLaw_81 : decode cX12_putsLaw 81 = .ok (.iload_n 1, 1) := by decide +kernel
theorem dX12_putsLaw_82 : decode cX12_putsLaw 82 = .ok (.imul, 1) := by decide +kernel
theorem dX12_putsLaw_83 : decode cX12_putsLaw 83 = .ok (.iadd, 1) := by decide +kernel
theorem dX12_putsLaw_84 : decode cX12_putsLaw 84 = .ok (.iload_n 2, 1) := by decide +kernel
theorem dX12_putsLaw_85 : decode cX12_putsLaw 85 = .ok (.iadd, 1) := by decide +kernel
theorem dX12_putsLaw_86 : decode cX12_putsLaw 86 = .ok (.aload_n 0, 1) := by decide +kernel
theorem dX12_putsLaw_87 : decode cX12_putsLaw 87 = .ok (.getfield 19, 3) := by decide +kernel
theorem dX12_putsLaw_90 : decode cX12_putsLaw 90 = .ok (.iconst 4, 1) := by decide +kernel
theorem dX12_putsLaw_91 : decode cX12_putsLaw 91 = .ok (.iload_n 2, 1) := by decide +kernel
theorem dX12_putsLaw_92 : decode cX12_putsLaw 92 = .ok (.imul, 1) := by decide +kernel
theorem dX12_putsLaw_93 : decode cX12_putsLaw 93 = .ok (.iconst 2, 1) := by decide +kernel
theorem dX12_putsLaw_94 : decode cX12_putsLaw 94 = .ok (.iadd, 1) := by decide +kernel
theorem dX12_putsLaw_95 : decode cX12_putsLaw 95 = .ok (.iaload, 1) := by decide +kernel
theorem dX12_putsLaw_96 : decode cX12_putsLaw 96 = .ok (.iastore, 1) := by decide +kernel
theorem dX12_putsLaw_97 : decode cX12_putsLaw 97 = .ok (.aload_n 0, 1) := by decide +kernel
theorem dX12_putsLaw_98 : decode cX12_putsLaw 98 = .ok (.getfield 7, 3) := by decide +kernel
theorem dX12_putsLaw_101 : decode cX12_putsLaw 101 = .ok (.sipush 788, 3) := by decide +kernel
theorem dX12_putsLaw_104 : decode cX12_putsLaw 104 = .ok (.bipush 16, 2) := by decide +kernel
theorem dX12_putsLaw_106 : decode cX12_putsLaw 106 = .ok (.iload_n 1, 1) := by decide +kernel
theorem dX12_putsLaw_107 : decode cX12_putsLaw 107 = .ok (.imul, 1) := by decide +kernel
theorem dX12_putsLaw_108 : decode cX12_putsLaw 108 = .ok (.iadd, 1) := by decide +kernel
theorem dX12_putsLaw_109 : decode cX12_putsLaw 109 = .ok (.iload_n 2, 1) := by decide +kernel
theorem dX12_putsLaw_110 : decode cX12_putsLaw 110 = .ok (.iadd, 1) := by decide +kernel
theorem dX12_putsLaw_111 : decode cX12_putsLaw 111 = .ok (.aload_n 0, 1) := by decide +kernel
theorem dX12_putsLaw_112 : decode cX12_putsLaw 112 = .ok (.getfield 19, 3) := by decide +kernel
theorem dX12_putsLaw_115 : decode cX12_putsLaw 115 = .ok (.iconst 4, 1) := by decide +kernel
theorem dX12_putsLaw_116 : decode cX12_putsLaw 116 = .ok (.iload_n 2, 1) := by decide +kernel
theorem dX12_putsLaw_117 : decode cX12_putsLaw 117 = .ok (.imul, 1) := by decide +kernel
theorem dX12_putsLaw_118 : decode cX12_putsLaw 118 = .ok (.iconst 3, 1) := by decide +kernel
theorem dX12_putsLaw_119 : decode cX12_putsLaw 119 = .ok (.iadd, 1) := by decide +kernel
theorem dX12_putsLaw_120 : decode cX12_putsLaw 120 = .ok (.iaload, 1) := by decide +kernel
theorem dX12_putsLaw_121 : decode cX12_putsLaw 121 = .ok (.iastore, 1) := by decide +kernel
theorem dX12_putsLaw_122 : decode cX12_putsLaw 122 = .ok (.iinc 2 1, 3) := by decide +kernel
theorem dX12_putsLaw_125 : decode cX12_putsLaw 125 = .ok (.goto (-109), 3) := by decide +kernel
theorem dX12_putsLaw_128 : decode cX12_putsLaw 128 = .ok (.iconst 0, 1) := by decide +kernel
theorem dX12_putsLaw_129 : decode cX12_putsLaw 129 = .ok (.istore_n 2, 1) := by decide +kernel
theorem dX12_putsLaw_130 : decode cX12_putsLaw 130 = .ok (.iload_n 2, 1) := by decide +kernel
theorem dX12_putsLaw_131 : decode cX12_putsLaw 131 = .ok (.iconst 2, 1) := by decide +kernel
theorem dX12_putsLaw_132 : decode cX12_putsLaw 132 = .ok (.aload_n 0, 1) := by decide +kernel
theorem dX12_putsLaw_133 : decode cX12_putsLaw 133 = .ok (.getfield 239, 3) := by decide +kernel
theorem dX12_putsLaw_136 : decode cX12_putsLaw 136 = .ok (.imul, 1) := by decide +kernel
theorem dX12_putsLaw_137 : decode cX12_putsLaw 137 = .ok (.if_icmp .ge 31, 3) := by decide +kernel
theorem dX12_putsLaw_140 : decode cX12_putsLaw 140 = .ok (.aload_n 0, 1) := by decide +kernel
theorem dX12_putsLaw_141 : decode cX12_putsLaw 141 = .ok (.getfield 7, 3) := by decide +kernel
theorem dX12_putsLaw_144 : decode cX12_putsLaw 144 = .ok (.sipush 836, 3) := by decide +kernel
theorem dX12_putsLaw_147 : decode cX12_putsLaw 147 = .ok (.sipush 820, 3) := by decide +kernel
theorem dX12_putsLaw_150 : decode cX12_putsLaw 150 = .ok (.iload_n 1, 1) := by decide +kernel
theorem dX12_putsLaw_151 : decode cX12_putsLaw 151 = .ok (.imul, 1) := by decide +kernel
theorem dX12_putsLaw_152 : decode cX12_putsLaw 152 = .ok (.iadd, 1) := by decide +kernel
theorem dX12_putsLaw_153 : decode cX12_putsLaw 153 = .ok (.iload_n 2, 1) := by decide +kernel
theorem dX12_putsLaw_154 : decode cX12_putsLaw 154 = .ok (.iadd, 1) := by decide +kernel
theorem dX12_putsLaw_155 : decode cX12_putsLaw 155 = .ok (.aload_n 0, 1) := by decide +kernel
theorem dX12_putsLaw_156 : decode cX12_putsLaw 156 = .ok (.getfield 22, 3) := by decide +kernel
theorem dX12_putsLaw_159 : decode cX12_putsLaw 159 = .ok (.iload_n 2, 1) := by decide +kernel
theorem dX12_putsLaw_160 : decode cX12_putsLaw 160 = .ok (.iaload, 1) := by decide +kernel
theorem dX12_putsLaw_161 : decode cX12_putsLaw 161 = .ok (.iastore, 1) := by decide +kernel
theorem dX12_putsLaw_162 : decode cX12_putsLaw 162 = .ok (.iinc 2 1, 3) := by decide +kernel
theorem dX12_putsLaw_165 : decode cX12_putsLaw 165 = .ok (.goto (-35), 3) := by decide +kernel
theorem dX12_putsLaw_168 : decode cX12_putsLaw 168 = .ok (.aload_n 0, 1) := by decide +kernel
theorem dX12_putsLaw_169 : decode cX12_putsLaw 169 = .ok (.getfield 274, 3) := by decide +kernel
theorem dX12_putsLaw_172 : decode cX12_putsLaw 172 = .ok (.ireturn, 1) := by decide +kernel
theorem dX12_putsPlan_0 : decode cX12_putsPlan 0 = .ok (.aload_n 0, 1) := by decide +kernel
theorem dX12_putsPlan_1 : decode cX12_putsPlan 1 = .ok (.getfield 7, 3) := by decide +kernel
theorem dX12_putsPlan_4 : decode cX12_putsPlan 4 = .ok (.bipush 82, 2) := by decide +kernel
theorem dX12_putsPlan_6 : decode cX12_putsPlan 6 = .ok (.iload_n 1, 1) := by decide +kernel
theorem dX12_putsPlan_7 : decode cX12_putsPlan 7 = .ok (.iadd, 1) := by decide +kernel
theorem dX12_putsPlan_8 : decode cX12_putsPlan 8 = .ok (.aload_n 0, 1) := by decide +kernel
theorem dX12_putsPlan_9 : decode cX12_putsPlan 9 = .ok (.getfield 287, 3) := by decide +kernel
theorem dX12_putsPlan_12 : decode cX12_putsPlan 12 = .ok (.iastore, 1) := by decide +kernel
theorem dX12_putsPlan_13 : decode cX12_putsPlan 13 = .ok (.iconst 0, 1) := by decide +kernel
theorem dX12_putsPlan_14 : decode cX12_putsPlan 14 = .ok (.istore_n 2, 1) := by decide +kernel
theorem dX12_putsPlan_15 : decode cX12_putsPlan 15 = .ok (.iload_n 2, 1) := by decide +kernel
theorem dX12_putsPlan_16 : decode cX12_putsPlan 16 = .ok (.iconst 5, 1) := by decide +kernel
theorem dX12_putsPlan_17 : decode cX12_putsPlan 17 = .ok (.aload_n 0, 1) := by decide +kernel
theorem dX12_putsPlan_18 : decode cX12_putsPlan 18 = .ok (.getfield 287, 3) := by decide +kernel
theorem dX12_putsPlan_21 : decode cX12_putsPlan 21 = .ok (.imul, 1) := by decide +kernel
theorem dX12_putsPlan_22 : decode cX12_putsPlan 22 = .ok (.if_icmp .ge 30, 3) := by decide +kernel
theorem dX12_putsPlan_25 : decode cX12_putsPlan 25 = .ok (.aload_n 0, 1) := by decide +kernel
theorem dX12_putsPlan_26 : decode cX12_putsPlan 26 = .ok (.getfield 7, 3) := by decide +kernel
theorem dX12_putsPlan_29 : decode cX12_putsPlan 29 = .ok (.sipush 150, 3) := by decide +kernel
theorem dX12_putsPlan_32 : decode cX12_putsPlan 32 = .ok (.bipush 60, 2) := by decide +kernel
theorem dX12_putsPlan_34 : decode cX12_putsPlan 34 = .ok (.iload_n 1, 1) := by decide +kernel
theorem dX12_putsPlan_35 : decode cX12_putsPlan 35 = .ok (.imul, 1) := by decide +kernel
theorem dX12_putsPlan_36 : decode cX12_putsPlan 36 = .ok (.iadd, 1) := by decide +kernel
theorem dX12_putsPlan_37 : decode cX12_putsPlan 37 = .ok (.iload_n 2, 1) := by decide +kernel
theorem dX12_putsPlan_38 : decode cX12_putsPlan 38 = .ok (.iadd, 1) := by decide +kernel
theorem dX12_putsPlan_39 : decode cX12_putsPlan 39 = .ok (.aload_n 0, 1) := by decide +kernel
theorem dX12_putsPlan_40 : decode cX12_putsPlan 40 = .ok (.getfield 25, 3) := by decide +kernel
theorem dX12_putsPlan_43 : decode cX12_putsPlan 43 = .ok (.iload_n 2, 1) := by decide +kernel
theorem dX12_putsPlan_44 : decode cX12_putsPlan 44 = .ok (.iaload, 1) := by decide +kernel
theorem dX12_putsPlan_45 : decode cX12_putsPlan 45 = .ok (.iastore, 1) := by decide +kernel
theorem dX12_putsPlan_46 : decode cX12_putsPlan 46 = .ok (.iinc 2 1, 3) := by decide +kernel
theorem dX12_putsPlan_49 : decode cX12_putsPlan 49 = .ok (.goto (-34), 3) := by decide +kernel
theorem dX12_putsPlan_52 : decode cX12_putsPlan 52 = .ok (.aload_n 0, 1) := by decide +kernel
theorem dX12_putsPlan_53 : decode cX12_putsPlan 53 = .ok (.iload_n 1, 1) := by decide +kernel
theorem dX12_putsPlan_54 : decode cX12_putsPlan 54 = .ok (.iconst 4, 1) := by decide +kernel
theorem dX12_putsPlan_55 : decode cX12_putsPlan 55 = .ok (.iconst 0, 1) := by decide +kernel
theorem dX12_putsPlan_56 : decode cX12_putsPlan 56 = .ok (.invokevirtual 83, 3) := by decide +kernel
theorem dX12_putsPlan_59 : decode cX12_putsPlan 59 = .ok (.aload_n 0, 1) := by decide +kernel
theorem dX12_putsPlan_60 : decode cX12_putsPlan 60 = .ok (.invokevirtual 78, 3) := by decide +kernel
theorem dX12_putsPlan_63 : decode cX12_putsPlan 63 = .ok (.aload_n 0, 1) := by decide +kernel
theorem dX12_putsPlan_64 : decode cX12_putsPlan 64 = .ok (.getfield 287, 3) := by decide +kernel
theorem dX12_putsPlan_67 : decode cX12_putsPlan 67 = .ok (.ireturn, 1) := by decide +kernel
theorem dX12_text_0 : decode cX12_text 0 = .ok (.aload_n 0, 1) := by decide +kernel
theorem dX12_text_1 : decode cX12_text 1 = .ok (.iconst 0, 1) := by decide +kernel
theorem dX12_text_2 : decode cX12_text 2 = .ok (.putfield 299, 3) := by decide +kernel
theorem dX12_text_5 : decode cX12_text 5 = .ok (.aload_n 0, 1) := by decide +kernel
theorem dX12_text_6 : decode cX12_text 6 = .ok (.iconst (-1), 1) := by decide +kernel
theorem dX12_text_7 : decode cX12_text 7 = .ok (.putfield 40, 3) := by decide +kernel
theorem dX12_text_10 : decode cX12_text 10 = .ok (.iload_n 1, 1) := by decide +kernel
theorem dX12_text_11 : decode cX12_text 11 = .ok (.iconst 0, 1) := by decide +kernel
theorem dX12_text_12 : decode cX12_text 12 = .ok (.iconst 3, 1) := by decide +kernel
theorem dX12_text_13 : decode cX12_text 13 = .ok (.invokestatic 71, 3) := by decide +kernel
theorem dX12_text_16 : decode cX12_text 16 = .ok (.ifCond .eq 16, 3) := by decide +kernel
theorem dX12_text_19 : decode cX12_text 19 = .ok (.iload_n 1, 1) := by decide +kernel
theorem dX12_text_20 : decode cX12_text 20 = .ok (.iconst 2, 1) := by decide +kernel
theorem dX12_text_21 : decode cX12_text 21 = .ok (.if_icmp .ne 18, 3) := by decide +kernel
theorem dX12_text_24 : decode cX12_text 24 = .ok (.aload_n 0, 1) := by decide +kernel
theorem dX12_text_25 : decode cX12_text 25 = .ok (.iload_n 2, 1) := by decide +kernel
theorem dX12_text_26 : decode cX12_text 26 = .ok (.invokevirtual 87, 3) := by decide +kernel
theorem dX12_text_29 : decode cX12_text 29 = .ok (.ifCond .ne 10, 3) := by decide +kernel
theorem dX12_text_32 : decode cX12_text 32 = .ok (.aload_n 0, 1) := by decide +kernel
theorem dX12_text_33 : decode cX12_text 33 = .ok (.iconst 0, 1) := by decide +kernel
theorem dX12_text_34 : decode cX12_text 34 = .ok (.putfield 98, 3) := by decide +kernel
theorem dX12_text_37 : decode cX12_text 37 = .ok (.iconst (-1), 1) := by decide +kernel
theorem dX12_text_38 : decode cX12_text 38 = .ok (.ireturn, 1) := by decide +kernel
theorem dX12_text_39 : decode cX12_text 39 = .ok (.aload_n 0, 1) := by decide +kernel
theorem dX12_text_40 : decode cX12_text 40 = .ok (.iconst 0, 1) := by decide +kernel
theorem dX12_text_41 : decode cX12_text 41 = .ok (.putfield 227, 3) := by decide +kernel
theorem dX12_text_44 : decode cX12_text 44 = .ok (.aload_n 0, 1) := by decide +kernel
theorem dX12_text_45 : decode cX12_text 45 = .ok (.iconst 0, 1) := by decide +kernel
theorem dX12_text_46 : decode cX12_text 46 = .ok (.putfield 101, 3) := by decide +kernel
theorem dX12_text_49 : decode cX12_text 49 = .ok (.aload_n 0, 1) := by decide +kernel
theorem dX12_text_50 : decode cX12_text 50 = .ok (.iload_n 1, 1) := by decide +kernel
theorem dX12_text_51 : decode cX12_text 51 = .ok (.putfield 186, 3) := by decide +kernel
theorem dX12_text_54 : decode cX12_text 54 = .ok (.aload_n 0, 1) := by decide +kernel
theorem dX12_text_55 : decode cX12_text 55 = .ok (.invokevirtual 236, 3) := by decide +kernel
theorem dX12_text_58 : decode cX12_text 58 = .ok (.iload_n 1, 1) := by decide +kernel
theorem dX12_text_59 : decode cX12_text 59 = .ok (.iconst 2, 1) := by decide +kernel
theorem dX12_text_60 : decode cX12_text 60 = .ok (.if_icmp .ne 10, 3) := by decide +kernel
theorem dX12_text_63 : decode cX12_text 63 = .ok (.aload_n 0, 1) := by decide +kernel
theorem dX12_text_64 : decode cX12_text 64 = .ok (.invokevirtual 302, 3) := by decide +kernel
theorem dX12_text_67 : decode cX12_text 67 = .ok (.goto 7, 3) := by decide +kernel
theorem dX12_text_70 : decode cX12_text 70 = .ok (.aload_n 0, 1) := by decide +kernel
theorem dX12_text_71 : decode cX12_text 71 = .ok (.invokevirtual 305, 3) := by decide +kernel
theorem dX12_text_74 : decode cX12_text 74 = .ok (.istore_n 3, 1) := by decide +kernel
theorem dX12_text_75 : decode cX12_text 75 = .ok (.aload_n 0, 1) := by decide +kernel
theorem dX12_text_76 : decode cX12_text 76 = .ok (.iconst 0, 1) := by decide +kernel
theorem dX12_text_77 : decode cX12_text 77 = .ok (.putfield 98, 3) := by decide +kernel
theorem dX12_text_80 : decode cX12_text 80 = .ok (.iload_n 3, 1) := by decide +kernel
theorem dX12_text_81 : decode cX12_text 81 = .ok (.ifCond .eq 31, 3) := by decide +kernel
theorem dX12_text_84 : decode cX12_text 84 = .ok (.iload_n 1, 1) := by decide +kernel
theorem dX12_text_85 : decode cX12_text 85 = .ok (.iconst 2, 1) := by decide +kernel
theorem dX12_text_86 : decode cX12_text 86 = .ok (.if_icmp .ne 11, 3) := by decide +kernel
theorem dX12_text_89 : decode cX12_text 89 = .ok (.aload_n 0, 1) := by decide +kernel
theorem dX12_text_90 : decode cX12_text 90 = .ok (.iload_n 2, 1) := by decide +kernel
theorem dX12_text_91 : decode cX12_text 91 = .ok (.invokevirtual 308, 3) := by decide +kernel
theorem dX12_text_94 : decode cX12_text 94 = .ok (.goto 17, 3) := by decide +kernel
theorem dX12_text_97 : decode cX12_text 97 = .ok (.aload_n 0, 1) := by decide +kernel
theorem dX12_text_98 : decode cX12_text 98 = .ok (.iload_n 1, 1) := by decide +kernel
theorem dX12_text_99 : decode cX12_text 99 = .ok (.iconst 3, 1) := by decide +kernel
theorem dX12_text_100 : decode cX12_text 100 = .ok (.if_icmp .ne 7, 3) := by decide +kernel
theorem dX12_text_103 : decode cX12_text 103 = .ok (.iconst 2, 1) := by decide +kernel
theorem dX12_text_104 : decode cX12_text 104 = .ok (.goto 4, 3) := by decide +kernel
theorem dX12_text_107 : decode cX12_text 107 = .ok (.iload_n 1, 1) := by decide +kernel
theorem dX12_text_108 : decode cX12_text 108 = .ok (.invokevirtual 311, 3) := by decide +kernel
theorem dX12_text_111 : decode cX12_text 111 = .ok (.ireturn, 1) := by decide +kernel
theorem dX12_text_112 : decode cX12_text 112 = .ok (.aload_n 0, 1) := by decide +kernel
theorem dX12_text_113 : decode cX12_text 113 = .ok (.aload_n 0, 1) := by decide +kernel
theorem dX12_text_114 : decode cX12_text 114 = .ok (.getfield 227, 3) := by decide +kernel
theorem dX12_text_117 : decode cX12_text 117 = .ok (.putfield 299, 3) := by decide +kernel
theorem dX12_text_120 : decode cX12_text 120 = .ok (.aload_n 0, 1) := by decide +kernel
theorem dX12_text_121 : decode cX12_text 121 = .ok (.aload_n 0, 1) := by decide +kernel
theorem dX12_text_122 : decode cX12_text 122 = .ok (.getfield 230, 3) := by decide +kernel
theorem dX12_text_125 : decode cX12_text 125 = .ok (.putfield 40, 3) := by decide +kernel
theorem dX12_text_128 : decode cX12_text 128 = .ok (.iconst (-1), 1) := by decide +kernel
theorem dX12_text_129 : decode cX12_text 129 = .ok (.ireturn, 1) := by decide +kernel
theorem dX12_fault_0 : decode cX12_fault 0 = .ok (.iload_n 1, 1) := by decide +kernel
theorem dX12_fault_1 : decode cX12_fault 1 = .ok (.ifCond .ne 10, 3) := by decide +kernel
theorem dX12_fault_4 : decode cX12_fault 4 = .ok (.aload_n 0, 1) := by decide +kernel
theorem dX12_fault_5 : decode cX12_fault 5 = .ok (.getfield 299, 3) := by decide +kernel
theorem dX12_fault_8 : decode cX12_fault 8 = .ok (.goto 16, 3) := by decide +kernel
theorem dX12_fault_11 : decode cX12_fault 11 = .ok (.iload_n 1, 1) := by decide +kernel
theorem dX12_fault_12 : decode cX12_fault 12 = .ok (.iconst 1, 1) := by decide +kernel
theorem dX12_fault_13 : decode cX12_fault 13 = .ok (.if_icmp .ne 10, 3) := by decide +kernel
theorem dX12_fault_16 : decode cX12_fault 16 = .ok (.aload_n 0, 1) := by decide +kernel
theorem dX12_fault_17 : decode cX12_fault 17 = .ok (.getfield 40, 3) := by decide +kernel
theorem dX12_fault_20 : decode cX12_fault 20 = .ok (.goto 4, 3) := by decide +kernel
theorem dX12_fault_23 : decode cX12_fault 23 = .ok (.iconst (-1), 1) := by decide +kernel
theorem dX12_fault_24 : decode cX12_fault 24 = .ok (.ireturn, 1) := by decide +kernel
theorem dX12_both_0 : decode cX12_both 0 = .ok (.iload_n 0, 1) := by decide +kernel
theorem dX12_both_1 : decode cX12_both 1 = .ok (.tableswitch 100 23 31 #[51, 55, 59, 100, 63, 74, 85, 100, 96], 51) := by decide +kernel
theorem dX12_both_52 : decode cX12_both 52 = .ok (.iload_n 1, 1) := by decide +kernel
theorem dX12_both_53 : decode cX12_both 53 = .ok (.iload_n 2, 1) := by decide +kernel
theorem dX12_both_54 : decode cX12_both 54 = .ok (.iadd, 1) := by decide +kernel
theorem dX12_both_55 : decode cX12_both 55 = .ok (.ireturn, 1) := by decide +kernel
theorem dX12_both_56 : decode cX12_both 56 = .ok (.iload_n 1, 1) := by decide +kernel
theorem dX12_both_57 : decode cX12_both 57 = .ok (.iload_n 2, 1) := by decide +kernel
theorem dX12_both_58 : decode cX12_both 58 = .ok (.isub, 1) := by decide +kernel
theorem dX12_both_59 : decode cX12_both 59 = .ok (.ireturn, 1) := by decide +kernel
theorem dX12_both_60 : decode cX12_both 60 = .ok (.iload_n 1, 1) := by decide +kernel
theorem dX12_both_61 : decode cX12_both 61 = .ok (.iload_n 2, 1) := by decide +kernel
theorem dX12_both_62 : decode cX12_both 62 = .ok (.imul, 1) := by decide +kernel
theorem dX12_both_63 : decode cX12_both 63 = .ok (.ireturn, 1) := by decide +kernel
theorem dX12_both_64 : decode cX12_both 64 = .ok (.iload_n 1, 1) := by decide +kernel
theorem dX12_both_65 : decode cX12_both 65 = .ok (.iload_n 2, 1) := by decide +kernel
theorem dX12_both_66 : decode cX12_both 66 = .ok (.if_icmp .ge 7, 3) := by decide +kernel
theorem dX12_both_69 : decode cX12_both 69 = .ok (.iconst 1, 1) := by decide +kernel
theorem dX12_both_70 : decode cX12_both 70 = .ok (.goto 4, 3) := by decide +kernel
theorem dX12_both_73 : decode cX12_both 73 = .ok (.iconst 0, 1) := by decide +kernel
theorem dX12_both_74 : decode cX12_both 74 = .ok (.ireturn, 1) := by decide +kernel
theorem dX12_both_75 : decode cX12_both 75 = .ok (.iload_n 1, 1) := by decide +kernel
theorem dX12_both_76 : decode cX12_both 76 = .ok (.iload_n 2, 1) := by decide +kernel
theorem dX12_both_77 : decode cX12_both 77 = .ok (.if_icmp .ne 7, 3) := by decide +kernel
theorem dX12_both_80 : decode cX12_both 80 = .ok (.iconst 1, 1) := by decide +kernel
theorem dX12_both_81 : decode cX12_both 81 = .ok (.goto 4, 3) := by decide +kernel
theorem dX12_both_84 : decode cX12_both 84 = .ok (.iconst 0, 1) := by decide +kernel
theorem dX12_both_85 : decode cX12_both 85 = .ok (.ireturn, 1) := by decide +kernel
theorem dX12_both_86 : decode cX12_both 86 = .ok (.iload_n 1, 1) := by decide +kernel
theorem dX12_both_87 : decode cX12_both 87 = .ok (.iload_n 2, 1) := by decide +kernel
theorem dX12_both_88 : decode cX12_both 88 = .ok (.if_icmp .le 7, 3) := by decide +kernel
theorem dX12_both_91 : decode cX12_both 91 = .ok (.iconst 1, 1) := by decide +kernel
theorem dX12_both_92 : decode cX12_both 92 = .ok (.goto 4, 3) := by decide +kernel
theorem dX12_both_95 : decode cX12_both 95 = .ok (.iconst 0, 1) := by decide +kernel
theorem dX12_both_96 : decode cX12_both 96 = .ok (.ireturn, 1) := by decide +kernel
theorem dX12_both_97 : decode cX12_both 97 = .ok (.iload_n 1, 1) := by decide +kernel
theorem dX12_both_98 : decode cX12_both 98 = .ok (.iload_n 2, 1) := by decide +kernel
theorem dX12_both_99 : decode cX12_both 99 = .ok (.iand, 1) := by decide +kernel
theorem dX12_both_100 : decode cX12_both 100 = .ok (.ireturn, 1) := by decide +kernel
theorem dX12_both_101 : decode cX12_both 101 = .ok (.iload_n 1, 1) := by decide +kernel
theorem dX12_both_102 : decode cX12_both 102 = .ok (.iload_n 2, 1) := by decide +kernel
theorem dX12_both_103 : decode cX12_both 103 = .ok (.ior, 1) := by decide +kernel
theorem dX12_both_104 : decode cX12_both 104 = .ok (.ireturn, 1) := by decide +kernel
theorem dX12_comesTo_0 : decode cX12_comesTo 0 = .ok (.iconst 0, 1) := by decide +kernel
theorem dX12_comesTo_1 : decode cX12_comesTo 1 = .ok (.istore 4, 2) := by decide +kernel
theorem dX12_comesTo_3 : decode cX12_comesTo 3 = .ok (.iload_n 2, 1) := by decide +kernel
theorem dX12_comesTo_4 : decode cX12_comesTo 4 = .ok (.istore 5, 2) := by decide +kernel
theorem dX12_comesTo_6 : decode cX12_comesTo 6 = .ok (.iload 5, 2) := by decide +kernel
theorem dX12_comesTo_8 : decode cX12_comesTo 8 = .ok (.iload_n 3, 1) := by decide +kernel
theorem dX12_comesTo_9 : decode cX12_comesTo 9 = .ok (.if_icmp .ge 177, 3) := by decide +kernel
theorem dX12_comesTo_12 : decode cX12_comesTo 12 = .ok (.aload_n 0, 1) := by decide +kernel
theorem dX12_comesTo_13 : decode cX12_comesTo 13 = .ok (.getfield 7, 3) := by decide +kernel
theorem dX12_comesTo_16 : decode cX12_comesTo 16 = .ok (.sipush 836, 3) := by decide +kernel
theorem dX12_comesTo_19 : decode cX12_comesTo 19 = .ok (.sipush 820, 3) := by decide +kernel
theorem dX12_comesTo_22 : decode cX12_comesTo 22 = .ok (.iload_n 1, 1) := by decide +kernel
theorem dX12_comesTo_23 : decode cX12_comesTo 23 = .ok (.imul, 1) := by decide +kernel
theorem dX12_comesTo_24 : decode cX12_comesTo 24 = .ok (.iadd, 1) := by decide +kernel
theorem dX12_comesTo_25 : decode cX12_comesTo 25 = .ok (.iconst 2, 1) := by decide +kernel
theorem dX12_comesTo_26 : decode cX12_comesTo 26 = .ok (.iload 5, 2) := by decide +kernel
theorem dX12_comesTo_28 : decode cX12_comesTo 28 = .ok (.imul, 1) := by decide +kernel
theorem dX12_comesTo_29 : decode cX12_comesTo 29 = .ok (.iadd, 1) := by decide +kernel
theorem dX12_comesTo_30 : decode cX12_comesTo 30 = .ok (.iaload, 1) := by decide +kernel
theorem dX12_comesTo_31 : decode cX12_comesTo 31 = .ok (.istore 6, 2) := by decide +kernel
theorem dX12_comesTo_33 : decode cX12_comesTo 33 = .ok (.aload_n 0, 1) := by decide +kernel
theorem dX12_comesTo_34 : decode cX12_comesTo 34 = .ok (.getfield 7, 3) := by decide +kernel
theorem dX12_comesTo_37 : decode cX12_comesTo 37 = .ok (.sipush 836, 3) := by decide +kernel
theorem dX12_comesTo_40 : decode cX12_comesTo 40 = .ok (.sipush 820, 3) := by decide +kernel
theorem dX12_comesTo_43 : decode cX12_comesTo 43 = .ok (.iload_n 1, 1) := by decide +kernel
theorem dX12_comesTo_44 : decode cX12_comesTo 44 = .ok (.imul, 1) := by decide +kernel
theorem dX12_comesTo_45 : decode cX12_comesTo 45 = .ok (.iadd, 1) := by decide +kernel
theorem dX12_comesTo_46 : decode cX12_comesTo 46 = .ok (.iconst 2, 1) := by decide +kernel
theorem dX12_comesTo_47 : decode cX12_comesTo 47 = .ok (.iload 5, 2) := by decide +kernel
theorem dX12_comesTo_49 : decode cX12_comesTo 49 = .ok (.imul, 1) := by decide +kernel
theorem dX12_comesTo_50 : decode cX12_comesTo 50 = .ok (.iadd, 1) := by decide +kernel
theorem dX12_comesTo_51 : decode cX12_comesTo 51 = .ok (.iconst 1, 1) := by decide +kernel
theorem dX12_comesTo_52 : decode cX12_comesTo 52 = .ok (.iadd, 1) := by decide +kernel
theorem dX12_comesTo_53 : decode cX12_comesTo 53 = .ok (.iaload, 1) := by decide +kernel
theorem dX12_comesTo_54 : decode cX12_comesTo 54 = .ok (.istore 7, 2) := by decide +kernel
theorem dX12_comesTo_56 : decode cX12_comesTo 56 = .ok (.iload 6, 2) := by decide +kernel
theorem dX12_comesTo_58 : decode cX12_comesTo 58 = .ok (.bipush 23, 2) := by decide +kernel
theorem dX12_comesTo_60 : decode cX12_comesTo 60 = .ok (.if_icmp .ge 33, 3) := by decide +kernel
theorem dX12_comesTo_63 : decode cX12_comesTo 63 = .ok (.aload_n 0, 1) := by decide +kernel
theorem dX12_comesTo_64 : decode cX12_comesTo 64 = .ok (.getfield 31, 3) := by decide +kernel
theorem dX12_comesTo_67 : decode cX12_comesTo 67 = .ok (.iload 4, 2) := by decide +kernel
theorem dX12_comesTo_69 : decode cX12_comesTo 69 = .ok (.iload 6, 2) := by decide +kernel
theorem dX12_comesTo_71 : decode cX12_comesTo 71 = .ok (.ifCond .ne 8, 3) := by decide +kernel
theorem dX12_comesTo_74 : decode cX12_comesTo 74 = .ok (.iload 7, 2) := by decide +kernel
theorem dX12_comesTo_76 : decode cX12_comesTo 76 = .ok (.goto 10, 3) := by decide +kernel
theorem dX12_comesTo_79 : decode cX12_comesTo 79 = .ok (.aload_n 0, 1) := by decide +kernel
theorem dX12_comesTo_80 : decode cX12_comesTo 80 = .ok (.getfield 34, 3) := by decide +kernel
theorem dX12_comesTo_83 : decode cX12_comesTo 83 = .ok (.iload 6, 2) := by decide +kernel
theorem dX12_comesTo_85 : decode cX12_comesTo 85 = .ok (.iaload, 1) := by decide +kernel
theorem dX12_comesTo_86 : decode cX12_comesTo 86 = .ok (.iastore, 1) := by decide +kernel
theorem dX12_comesTo_87 : decode cX12_comesTo 87 = .ok (.iinc 4 1, 3) := by decide +kernel
theorem dX12_comesTo_90 : decode cX12_comesTo 90 = .ok (.goto 90, 3) := by decide +kernel
theorem dX12_comesTo_93 : decode cX12_comesTo 93 = .ok (.iload 6, 2) := by decide +kernel
theorem dX12_comesTo_95 : decode cX12_comesTo 95 = .ok (.bipush 26, 2) := by decide +kernel
theorem dX12_comesTo_97 : decode cX12_comesTo 97 = .ok (.if_icmp .ne 20, 3) := by decide +kernel
theorem dX12_comesTo_100 : decode cX12_comesTo 100 = .ok (.aload_n 0, 1) := by decide +kernel
theorem dX12_comesTo_101 : decode cX12_comesTo 101 = .ok (.getfield 31, 3) := by decide +kernel
theorem dX12_comesTo_104 : decode cX12_comesTo 104 = .ok (.iload 4, 2) := by decide +kernel
theorem dX12_comesTo_106 : decode cX12_comesTo 106 = .ok (.iconst 1, 1) := by decide +kernel
theorem dX12_comesTo_107 : decode cX12_comesTo 107 = .ok (.isub, 1) := by decide +kernel
theorem dX12_comesTo_108 : decode cX12_comesTo 108 = .ok (.dup2, 1) := by decide +kernel
theorem dX12_comesTo_109 : decode cX12_comesTo 109 = .ok (.iaload, 1) := by decide +kernel
theorem dX12_comesTo_110 : decode cX12_comesTo 110 = .ok (.iload 7, 2) := by decide +kernel
theorem dX12_comesTo_112 : decode cX12_comesTo 112 = .ok (.idiv, 1) := by decide +kernel
theorem dX12_comesTo_113 : decode cX12_comesTo 113 = .ok (.iastore, 1) := by decide +kernel
theorem dX12_comesTo_114 : decode cX12_comesTo 114 = .ok (.goto 66, 3) := by decide +kernel
theorem dX12_comesTo_117 : decode cX12_comesTo 117 = .ok (.iload 6, 2) := by decide +kernel
theorem dX12_comesTo_119 : decode cX12_comesTo 119 = .ok (.bipush 30, 2) := by decide +kernel
theorem dX12_comesTo_121 : decode cX12_comesTo 121 = .ok (.if_icmp .ne 26, 3) := by decide +kernel
theorem dX12_comesTo_124 : decode cX12_comesTo 124 = .ok (.aload_n 0, 1) := by decide +kernel
theorem dX12_comesTo_125 : decode cX12_comesTo 125 = .ok (.getfield 31, 3) := by decide +kernel
theorem dX12_comesTo_128 : decode cX12_comesTo 128 = .ok (.iload 4, 2) := by decide +kernel
theorem dX12_comesTo_130 : decode cX12_comesTo 130 = .ok (.iconst 1, 1) := by decide +kernel
theorem dX12_comesTo_131 : decode cX12_comesTo 131 = .ok (.isub, 1) := by decide +kernel
theorem dX12_comesTo_132 : decode cX12_comesTo 132 = .ok (.iconst 1, 1) := by decide +kernel
theorem dX12_comesTo_133 : decode cX12_comesTo 133 = .ok (.aload_n 0, 1) := by decide +kernel
theorem dX12_comesTo_134 : decode cX12_comesTo 134 = .ok (.getfield 31, 3) := by decide +kernel
theorem dX12_comesTo_137 : decode cX12_comesTo 137 = .ok (.iload 4, 2) := by decide +kernel
theorem dX12_comesTo_139 : decode cX12_comesTo 139 = .ok (.iconst 1, 1) := by decide +kernel
theorem dX12_comesTo_140 : decode cX12_comesTo 140 = .ok (.isub, 1) := by decide +kernel
theorem dX12_comesTo_141 : decode cX12_comesTo 141 = .ok (.iaload, 1) := by decide +kernel
theorem dX12_comesTo_142 : decode cX12_comesTo 142 = .ok (.isub, 1) := by decide +kernel
theorem dX12_comesTo_143 : decode cX12_comesTo 143 = .ok (.iastore, 1) := by decide +kernel
theorem dX12_comesTo_144 : decode cX12_comesTo 144 = .ok (.goto 36, 3) := by decide +kernel
theorem dX12_comesTo_147 : decode cX12_comesTo 147 = .ok (.iinc 4 (-1), 3) := by decide +kernel
