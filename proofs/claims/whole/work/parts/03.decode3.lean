theorem dX12_comesTo_150 : decode cX12_comesTo 150 = .ok (.aload_n 0, 1) := by decide +kernel
theorem dX12_comesTo_151 : decode cX12_comesTo 151 = .ok (.getfield 31, 3) := by decide +kernel
theorem dX12_comesTo_154 : decode cX12_comesTo 154 = .ok (.iload 4, 2) := by decide +kernel
theorem dX12_comesTo_156 : decode cX12_comesTo 156 = .ok (.iconst 1, 1) := by decide +kernel
theorem dX12_comesTo_157 : decode cX12_comesTo 157 = .ok (.isub, 1) := by decide +kernel
theorem dX12_comesTo_158 : decode cX12_comesTo 158 = .ok (.iload 6, 2) := by decide +kernel
theorem dX12_comesTo_160 : decode cX12_comesTo 160 = .ok (.aload_n 0, 1) := by decide +kernel
theorem dX12_comesTo_161 : decode cX12_comesTo 161 = .ok (.getfield 31, 3) := by decide +kernel
theorem dX12_comesTo_164 : decode cX12_comesTo 164 = .ok (.iload 4, 2) := by decide +kernel
theorem dX12_comesTo_166 : decode cX12_comesTo 166 = .ok (.iconst 1, 1) := by decide +kernel
theorem dX12_comesTo_167 : decode cX12_comesTo 167 = .ok (.isub, 1) := by decide +kernel
theorem dX12_comesTo_168 : decode cX12_comesTo 168 = .ok (.iaload, 1) := by decide +kernel
theorem dX12_comesTo_169 : decode cX12_comesTo 169 = .ok (.aload_n 0, 1) := by decide +kernel
theorem dX12_comesTo_170 : decode cX12_comesTo 170 = .ok (.getfield 31, 3) := by decide +kernel
theorem dX12_comesTo_173 : decode cX12_comesTo 173 = .ok (.iload 4, 2) := by decide +kernel
theorem dX12_comesTo_175 : decode cX12_comesTo 175 = .ok (.iaload, 1) := by decide +kernel
theorem dX12_comesTo_176 : decode cX12_comesTo 176 = .ok (.invokestatic 314, 3) := by decide +kernel
theorem dX12_comesTo_179 : decode cX12_comesTo 179 = .ok (.iastore, 1) := by decide +kernel
theorem dX12_comesTo_180 : decode cX12_comesTo 180 = .ok (.iinc 5 1, 3) := by decide +kernel
theorem dX12_comesTo_183 : decode cX12_comesTo 183 = .ok (.goto (-177), 3) := by decide +kernel
theorem dX12_comesTo_186 : decode cX12_comesTo 186 = .ok (.aload_n 0, 1) := by decide +kernel
theorem dX12_comesTo_187 : decode cX12_comesTo 187 = .ok (.getfield 31, 3) := by decide +kernel
theorem dX12_comesTo_190 : decode cX12_comesTo 190 = .ok (.iconst 0, 1) := by decide +kernel
theorem dX12_comesTo_191 : decode cX12_comesTo 191 = .ok (.iaload, 1) := by decide +kernel
theorem dX12_comesTo_192 : decode cX12_comesTo 192 = .ok (.ireturn, 1) := by decide +kernel
theorem dX12_lawSays_0 : decode cX12_lawSays 0 = .ok (.bipush 16, 2) := by decide +kernel
theorem dX12_lawSays_2 : decode cX12_lawSays 2 = .ok (.iload_n 1, 1) := by decide +kernel
theorem dX12_lawSays_3 : decode cX12_lawSays 3 = .ok (.imul, 1) := by decide +kernel
theorem dX12_lawSays_4 : decode cX12_lawSays 4 = .ok (.istore 5, 2) := by decide +kernel
theorem dX12_lawSays_6 : decode cX12_lawSays 6 = .ok (.iload 5, 2) := by decide +kernel
theorem dX12_lawSays_8 : decode cX12_lawSays 8 = .ok (.bipush 16, 2) := by decide +kernel
theorem dX12_lawSays_10 : decode cX12_lawSays 10 = .ok (.iload_n 1, 1) := by decide +kernel
theorem dX12_lawSays_11 : decode cX12_lawSays 11 = .ok (.imul, 1) := by decide +kernel
theorem dX12_lawSays_12 : decode cX12_lawSays 12 = .ok (.aload_n 0, 1) := by decide +kernel
theorem dX12_lawSays_13 : decode cX12_lawSays 13 = .ok (.getfield 7, 3) := by decide +kernel
theorem dX12_lawSays_16 : decode cX12_lawSays 16 = .ok (.sipush 640, 3) := by decide +kernel
theorem dX12_lawSays_19 : decode cX12_lawSays 19 = .ok (.iload_n 1, 1) := by decide +kernel
theorem dX12_lawSays_20 : decode cX12_lawSays 20 = .ok (.iadd, 1) := by decide +kernel
theorem dX12_lawSays_21 : decode cX12_lawSays 21 = .ok (.iaload, 1) := by decide +kernel
theorem dX12_lawSays_22 : decode cX12_lawSays 22 = .ok (.iadd, 1) := by decide +kernel
theorem dX12_lawSays_23 : decode cX12_lawSays 23 = .ok (.if_icmp .ge 114, 3) := by decide +kernel
theorem dX12_lawSays_26 : decode cX12_lawSays 26 = .ok (.aload_n 0, 1) := by decide +kernel
theorem dX12_lawSays_27 : decode cX12_lawSays 27 = .ok (.getfield 7, 3) := by decide +kernel
theorem dX12_lawSays_30 : decode cX12_lawSays 30 = .ok (.sipush 788, 3) := by decide +kernel
theorem dX12_lawSays_33 : decode cX12_lawSays 33 = .ok (.iload 5, 2) := by decide +kernel
theorem dX12_lawSays_35 : decode cX12_lawSays 35 = .ok (.iadd, 1) := by decide +kernel
theorem dX12_lawSays_36 : decode cX12_lawSays 36 = .ok (.iaload, 1) := by decide +kernel
theorem dX12_lawSays_37 : decode cX12_lawSays 37 = .ok (.iload_n 2, 1) := by decide +kernel
theorem dX12_lawSays_38 : decode cX12_lawSays 38 = .ok (.if_icmp .ne 93, 3) := by decide +kernel
theorem dX12_lawSays_41 : decode cX12_lawSays 41 = .ok (.aload_n 0, 1) := by decide +kernel
theorem dX12_lawSays_42 : decode cX12_lawSays 42 = .ok (.getfield 7, 3) := by decide +kernel
theorem dX12_lawSays_45 : decode cX12_lawSays 45 = .ok (.sipush 740, 3) := by decide +kernel
theorem dX12_lawSays_48 : decode cX12_lawSays 48 = .ok (.iload 5, 2) := by decide +kernel
theorem dX12_lawSays_50 : decode cX12_lawSays 50 = .ok (.iadd, 1) := by decide +kernel
theorem dX12_lawSays_51 : decode cX12_lawSays 51 = .ok (.iaload, 1) := by decide +kernel
theorem dX12_lawSays_52 : decode cX12_lawSays 52 = .ok (.aload_n 0, 1) := by decide +kernel
theorem dX12_lawSays_53 : decode cX12_lawSays 53 = .ok (.getfield 7, 3) := by decide +kernel
theorem dX12_lawSays_56 : decode cX12_lawSays 56 = .ok (.sipush 692, 3) := by decide +kernel
theorem dX12_lawSays_59 : decode cX12_lawSays 59 = .ok (.iload 5, 2) := by decide +kernel
theorem dX12_lawSays_61 : decode cX12_lawSays 61 = .ok (.iadd, 1) := by decide +kernel
theorem dX12_lawSays_62 : decode cX12_lawSays 62 = .ok (.iaload, 1) := by decide +kernel
theorem dX12_lawSays_63 : decode cX12_lawSays 63 = .ok (.if_icmp .eq 34, 3) := by decide +kernel
theorem dX12_lawSays_66 : decode cX12_lawSays 66 = .ok (.aload_n 0, 1) := by decide +kernel
theorem dX12_lawSays_67 : decode cX12_lawSays 67 = .ok (.iload_n 1, 1) := by decide +kernel
theorem dX12_lawSays_68 : decode cX12_lawSays 68 = .ok (.aload_n 0, 1) := by decide +kernel
theorem dX12_lawSays_69 : decode cX12_lawSays 69 = .ok (.getfield 7, 3) := by decide +kernel
theorem dX12_lawSays_72 : decode cX12_lawSays 72 = .ok (.sipush 692, 3) := by decide +kernel
theorem dX12_lawSays_75 : decode cX12_lawSays 75 = .ok (.iload 5, 2) := by decide +kernel
theorem dX12_lawSays_77 : decode cX12_lawSays 77 = .ok (.iadd, 1) := by decide +kernel
theorem dX12_lawSays_78 : decode cX12_lawSays 78 = .ok (.iaload, 1) := by decide +kernel
theorem dX12_lawSays_79 : decode cX12_lawSays 79 = .ok (.aload_n 0, 1) := by decide +kernel
theorem dX12_lawSays_80 : decode cX12_lawSays 80 = .ok (.getfield 7, 3) := by decide +kernel
theorem dX12_lawSays_83 : decode cX12_lawSays 83 = .ok (.sipush 740, 3) := by decide +kernel
theorem dX12_lawSays_86 : decode cX12_lawSays 86 = .ok (.iload 5, 2) := by decide +kernel
theorem dX12_lawSays_88 : decode cX12_lawSays 88 = .ok (.iadd, 1) := by decide +kernel
theorem dX12_lawSays_89 : decode cX12_lawSays 89 = .ok (.iaload, 1) := by decide +kernel
theorem dX12_lawSays_90 : decode cX12_lawSays 90 = .ok (.invokevirtual 318, 3) := by decide +kernel
theorem dX12_lawSays_93 : decode cX12_lawSays 93 = .ok (.iconst 1, 1) := by decide +kernel
theorem dX12_lawSays_94 : decode cX12_lawSays 94 = .ok (.if_icmp .ne 37, 3) := by decide +kernel
theorem dX12_lawSays_97 : decode cX12_lawSays 97 = .ok (.aload_n 0, 1) := by decide +kernel
theorem dX12_lawSays_98 : decode cX12_lawSays 98 = .ok (.iload_n 1, 1) := by decide +kernel
theorem dX12_lawSays_99 : decode cX12_lawSays 99 = .ok (.aload_n 0, 1) := by decide +kernel
theorem dX12_lawSays_100 : decode cX12_lawSays 100 = .ok (.getfield 7, 3) := by decide +kernel
theorem dX12_lawSays_103 : decode cX12_lawSays 103 = .ok (.sipush 644, 3) := by decide +kernel
theorem dX12_lawSays_106 : decode cX12_lawSays 106 = .ok (.iload 5, 2) := by decide +kernel
theorem dX12_lawSays_108 : decode cX12_lawSays 108 = .ok (.iadd, 1) := by decide +kernel
theorem dX12_lawSays_109 : decode cX12_lawSays 109 = .ok (.iaload, 1) := by decide +kernel
theorem dX12_lawSays_110 : decode cX12_lawSays 110 = .ok (.aload_n 0, 1) := by decide +kernel
theorem dX12_lawSays_111 : decode cX12_lawSays 111 = .ok (.getfield 7, 3) := by decide +kernel
theorem dX12_lawSays_114 : decode cX12_lawSays 114 = .ok (.sipush 692, 3) := by decide +kernel
theorem dX12_lawSays_117 : decode cX12_lawSays 117 = .ok (.iload 5, 2) := by decide +kernel
theorem dX12_lawSays_119 : decode cX12_lawSays 119 = .ok (.iadd, 1) := by decide +kernel
theorem dX12_lawSays_120 : decode cX12_lawSays 120 = .ok (.iaload, 1) := by decide +kernel
theorem dX12_lawSays_121 : decode cX12_lawSays 121 = .ok (.invokevirtual 318, 3) := by decide +kernel
theorem dX12_lawSays_124 : decode cX12_lawSays 124 = .ok (.iload_n 3, 1) := by decide +kernel
theorem dX12_lawSays_125 : decode cX12_lawSays 125 = .ok (.iload 4, 2) := by decide +kernel
theorem dX12_lawSays_127 : decode cX12_lawSays 127 = .ok (.invokestatic 321, 3) := by decide +kernel
theorem dX12_lawSays_130 : decode cX12_lawSays 130 = .ok (.ireturn, 1) := by decide +kernel
theorem dX12_lawSays_131 : decode cX12_lawSays 131 = .ok (.iinc 5 1, 3) := by decide +kernel
theorem dX12_lawSays_134 : decode cX12_lawSays 134 = .ok (.goto (-128), 3) := by decide +kernel
theorem dX12_lawSays_137 : decode cX12_lawSays 137 = .ok (.iconst 0, 1) := by decide +kernel
theorem dX12_lawSays_138 : decode cX12_lawSays 138 = .ok (.ireturn, 1) := by decide +kernel
theorem dX12_armFacts_0 : decode cX12_armFacts 0 = .ok (.aload_n 0, 1) := by decide +kernel
theorem dX12_armFacts_1 : decode cX12_armFacts 1 = .ok (.getfield 34, 3) := by decide +kernel
theorem dX12_armFacts_4 : decode cX12_armFacts 4 = .ok (.bipush 10, 2) := by decide +kernel
theorem dX12_armFacts_6 : decode cX12_armFacts 6 = .ok (.iload_n 2, 1) := by decide +kernel
theorem dX12_armFacts_7 : decode cX12_armFacts 7 = .ok (.iastore, 1) := by decide +kernel
theorem dX12_armFacts_8 : decode cX12_armFacts 8 = .ok (.aload_n 0, 1) := by decide +kernel
theorem dX12_armFacts_9 : decode cX12_armFacts 9 = .ok (.getfield 34, 3) := by decide +kernel
theorem dX12_armFacts_12 : decode cX12_armFacts 12 = .ok (.bipush 11, 2) := by decide +kernel
theorem dX12_armFacts_14 : decode cX12_armFacts 14 = .ok (.iload_n 3, 1) := by decide +kernel
theorem dX12_armFacts_15 : decode cX12_armFacts 15 = .ok (.iastore, 1) := by decide +kernel
theorem dX12_armFacts_16 : decode cX12_armFacts 16 = .ok (.aload_n 0, 1) := by decide +kernel
theorem dX12_armFacts_17 : decode cX12_armFacts 17 = .ok (.getfield 34, 3) := by decide +kernel
theorem dX12_armFacts_20 : decode cX12_armFacts 20 = .ok (.bipush 12, 2) := by decide +kernel
theorem dX12_armFacts_22 : decode cX12_armFacts 22 = .ok (.iload 4, 2) := by decide +kernel
theorem dX12_armFacts_24 : decode cX12_armFacts 24 = .ok (.iastore, 1) := by decide +kernel
theorem dX12_armFacts_25 : decode cX12_armFacts 25 = .ok (.aload_n 0, 1) := by decide +kernel
theorem dX12_armFacts_26 : decode cX12_armFacts 26 = .ok (.getfield 34, 3) := by decide +kernel
theorem dX12_armFacts_29 : decode cX12_armFacts 29 = .ok (.bipush 13, 2) := by decide +kernel
theorem dX12_armFacts_31 : decode cX12_armFacts 31 = .ok (.iload 5, 2) := by decide +kernel
theorem dX12_armFacts_33 : decode cX12_armFacts 33 = .ok (.iastore, 1) := by decide +kernel
theorem dX12_armFacts_34 : decode cX12_armFacts 34 = .ok (.aload_n 0, 1) := by decide +kernel
theorem dX12_armFacts_35 : decode cX12_armFacts 35 = .ok (.getfield 34, 3) := by decide +kernel
theorem dX12_armFacts_38 : decode cX12_armFacts 38 = .ok (.bipush 14, 2) := by decide +kernel
theorem dX12_armFacts_40 : decode cX12_armFacts 40 = .ok (.aload_n 0, 1) := by decide +kernel
theorem dX12_armFacts_41 : decode cX12_armFacts 41 = .ok (.iload_n 1, 1) := by decide +kernel
theorem dX12_armFacts_42 : decode cX12_armFacts 42 = .ok (.iconst 0, 1) := by decide +kernel
theorem dX12_armFacts_43 : decode cX12_armFacts 43 = .ok (.invokevirtual 324, 3) := by decide +kernel
theorem dX12_armFacts_46 : decode cX12_armFacts 46 = .ok (.iastore, 1) := by decide +kernel
theorem dX12_armFacts_47 : decode cX12_armFacts 47 = .ok (.aload_n 0, 1) := by decide +kernel
theorem dX12_armFacts_48 : decode cX12_armFacts 48 = .ok (.getfield 34, 3) := by decide +kernel
theorem dX12_armFacts_51 : decode cX12_armFacts 51 = .ok (.bipush 15, 2) := by decide +kernel
theorem dX12_armFacts_53 : decode cX12_armFacts 53 = .ok (.iload 6, 2) := by decide +kernel
theorem dX12_armFacts_55 : decode cX12_armFacts 55 = .ok (.iastore, 1) := by decide +kernel
theorem dX12_armFacts_56 : decode cX12_armFacts 56 = .ok (.aload_n 0, 1) := by decide +kernel
theorem dX12_armFacts_57 : decode cX12_armFacts 57 = .ok (.getfield 34, 3) := by decide +kernel
theorem dX12_armFacts_60 : decode cX12_armFacts 60 = .ok (.bipush 16, 2) := by decide +kernel
theorem dX12_armFacts_62 : decode cX12_armFacts 62 = .ok (.aload_n 0, 1) := by decide +kernel
theorem dX12_armFacts_63 : decode cX12_armFacts 63 = .ok (.iload_n 1, 1) := by decide +kernel
theorem dX12_armFacts_64 : decode cX12_armFacts 64 = .ok (.iconst 2, 1) := by decide +kernel
theorem dX12_armFacts_65 : decode cX12_armFacts 65 = .ok (.invokevirtual 324, 3) := by decide +kernel
theorem dX12_armFacts_68 : decode cX12_armFacts 68 = .ok (.bipush 100, 2) := by decide +kernel
theorem dX12_armFacts_70 : decode cX12_armFacts 70 = .ok (.idiv, 1) := by decide +kernel
theorem dX12_armFacts_71 : decode cX12_armFacts 71 = .ok (.iastore, 1) := by decide +kernel
theorem dX12_armFacts_72 : decode cX12_armFacts 72 = .ok (.aload_n 0, 1) := by decide +kernel
theorem dX12_armFacts_73 : decode cX12_armFacts 73 = .ok (.getfield 34, 3) := by decide +kernel
theorem dX12_armFacts_76 : decode cX12_armFacts 76 = .ok (.bipush 17, 2) := by decide +kernel
theorem dX12_armFacts_78 : decode cX12_armFacts 78 = .ok (.aload_n 0, 1) := by decide +kernel
theorem dX12_armFacts_79 : decode cX12_armFacts 79 = .ok (.getfield 7, 3) := by decide +kernel
theorem dX12_armFacts_82 : decode cX12_armFacts 82 = .ok (.iconst 0, 1) := by decide +kernel
theorem dX12_armFacts_83 : decode cX12_armFacts 83 = .ok (.iaload, 1) := by decide +kernel
theorem dX12_armFacts_84 : decode cX12_armFacts 84 = .ok (.iastore, 1) := by decide +kernel
theorem dX12_armFacts_85 : decode cX12_armFacts 85 = .ok (.return_, 1) := by decide +kernel
theorem dX12_overOf_0 : decode cX12_overOf 0 = .ok (.aload_n 0, 1) := by decide +kernel
theorem dX12_overOf_1 : decode cX12_overOf 1 = .ok (.iconst 1, 1) := by decide +kernel
theorem dX12_overOf_2 : decode cX12_overOf 2 = .ok (.bipush 24, 2) := by decide +kernel
theorem dX12_overOf_4 : decode cX12_overOf 4 = .ok (.iconst 0, 1) := by decide +kernel
theorem dX12_overOf_5 : decode cX12_overOf 5 = .ok (.sipush 1000, 3) := by decide +kernel
theorem dX12_overOf_8 : decode cX12_overOf 8 = .ok (.invokevirtual 327, 3) := by decide +kernel
theorem dX12_overOf_11 : decode cX12_overOf 11 = .ok (.ireturn, 1) := by decide +kernel
theorem dX12_wearOf_0 : decode cX12_wearOf 0 = .ok (.aload_n 0, 1) := by decide +kernel
theorem dX12_wearOf_1 : decode cX12_wearOf 1 = .ok (.iconst 1, 1) := by decide +kernel
theorem dX12_wearOf_2 : decode cX12_wearOf 2 = .ok (.bipush 25, 2) := by decide +kernel
theorem dX12_wearOf_4 : decode cX12_wearOf 4 = .ok (.iconst 0, 1) := by decide +kernel
theorem dX12_wearOf_5 : decode cX12_wearOf 5 = .ok (.sipush 1000, 3) := by decide +kernel
theorem dX12_wearOf_8 : decode cX12_wearOf 8 = .ok (.invokevirtual 327, 3) := by decide +kernel
theorem dX12_wearOf_11 : decode cX12_wearOf 11 = .ok (.ireturn, 1) := by decide +kernel
theorem dX12_sine_0 : decode cX12_sine 0 = .ok (.sipush 4000, 3) := by decide +kernel
theorem dX12_sine_3 : decode cX12_sine 3 = .ok (.iload_n 0, 1) := by decide +kernel
theorem dX12_sine_4 : decode cX12_sine 4 = .ok (.imul, 1) := by decide +kernel
theorem dX12_sine_5 : decode cX12_sine 5 = .ok (.sipush 180, 3) := by decide +kernel
theorem dX12_sine_8 : decode cX12_sine 8 = .ok (.iload_n 0, 1) := by decide +kernel
theorem dX12_sine_9 : decode cX12_sine 9 = .ok (.isub, 1) := by decide +kernel
theorem dX12_sine_10 : decode cX12_sine 10 = .ok (.imul, 1) := by decide +kernel
theorem dX12_sine_11 : decode cX12_sine 11 = .ok (.ldc_w 331, 3) := by decide +kernel
theorem dX12_sine_14 : decode cX12_sine 14 = .ok (.iload_n 0, 1) := by decide +kernel
theorem dX12_sine_15 : decode cX12_sine 15 = .ok (.sipush 180, 3) := by decide +kernel
theorem dX12_sine_18 : decode cX12_sine 18 = .ok (.iload_n 0, 1) := by decide +kernel
theorem dX12_sine_19 : decode cX12_sine 19 = .ok (.isub, 1) := by decide +kernel
theorem dX12_sine_20 : decode cX12_sine 20 = .ok (.imul, 1) := by decide +kernel
theorem dX12_sine_21 : decode cX12_sine 21 = .ok (.isub, 1) := by decide +kernel
theorem dX12_sine_22 : decode cX12_sine 22 = .ok (.idiv, 1) := by decide +kernel
theorem dX12_sine_23 : decode cX12_sine 23 = .ok (.ireturn, 1) := by decide +kernel
theorem dX12_begins_0 : decode cX12_begins 0 = .ok (.aload_n 0, 1) := by decide +kernel
theorem dX12_begins_1 : decode cX12_begins 1 = .ok (.iconst 3, 1) := by decide +kernel
theorem dX12_begins_2 : decode cX12_begins 2 = .ok (.iload_n 1, 1) := by decide +kernel
theorem dX12_begins_3 : decode cX12_begins 3 = .ok (.imul, 1) := by decide +kernel
theorem dX12_begins_4 : decode cX12_begins 4 = .ok (.bipush 90, 2) := by decide +kernel
theorem dX12_begins_6 : decode cX12_begins 6 = .ok (.iload_n 2, 1) := by decide +kernel
theorem dX12_begins_7 : decode cX12_begins 7 = .ok (.isub, 1) := by decide +kernel
theorem dX12_begins_8 : decode cX12_begins 8 = .ok (.invokestatic 332, 3) := by decide +kernel
theorem dX12_begins_11 : decode cX12_begins 11 = .ok (.imul, 1) := by decide +kernel
theorem dX12_begins_12 : decode cX12_begins 12 = .ok (.sipush 1000, 3) := by decide +kernel
theorem dX12_begins_15 : decode cX12_begins 15 = .ok (.idiv, 1) := by decide +kernel
theorem dX12_begins_16 : decode cX12_begins 16 = .ok (.putfield 335, 3) := by decide +kernel
theorem dX12_begins_19 : decode cX12_begins 19 = .ok (.aload_n 0, 1) := by decide +kernel
theorem dX12_begins_20 : decode cX12_begins 20 = .ok (.iconst 3, 1) := by decide +kernel
theorem dX12_begins_21 : decode cX12_begins 21 = .ok (.iload_n 1, 1) := by decide +kernel
theorem dX12_begins_22 : decode cX12_begins 22 = .ok (.imul, 1) := by decide +kernel
theorem dX12_begins_23 : decode cX12_begins 23 = .ok (.iload_n 2, 1) := by decide +kernel
theorem dX12_begins_24 : decode cX12_begins 24 = .ok (.invokestatic 332, 3) := by decide +kernel
theorem dX12_begins_27 : decode cX12_begins 27 = .ok (.imul, 1) := by decide +kernel
theorem dX12_begins_28 : decode cX12_begins 28 = .ok (.sipush 1000, 3) := by decide +kernel
theorem dX12_begins_31 : decode cX12_begins 31 = .ok (.idiv, 1) := by decide +kernel
theorem dX12_begins_32 : decode cX12_begins 32 = .ok (.putfield 337, 3) := by decide +kernel
theorem dX12_begins_35 : decode cX12_begins 35 = .ok (.aload_n 0, 1) := by decide +kernel
theorem dX12_begins_36 : decode cX12_begins 36 = .ok (.sipush 180, 3) := by decide +kernel
theorem dX12_begins_39 : decode cX12_begins 39 = .ok (.putfield 339, 3) := by decide +kernel
theorem dX12_begins_42 : decode cX12_begins 42 = .ok (.aload_n 0, 1) := by decide +kernel
theorem dX12_begins_43 : decode cX12_begins 43 = .ok (.iconst 0, 1) := by decide +kernel
theorem dX12_begins_44 : decode cX12_begins 44 = .ok (.putfield 341, 3) := by decide +kernel
theorem dX12_begins_47 : decode cX12_begins 47 = .ok (.aload_n 0, 1) := by decide +kernel
theorem dX12_begins_48 : decode cX12_begins 48 = .ok (.iconst 0, 1) := by decide +kernel
theorem dX12_begins_49 : decode cX12_begins 49 = .ok (.putfield 344, 3) := by decide +kernel
theorem dX12_begins_52 : decode cX12_begins 52 = .ok (.aload_n 0, 1) := by decide +kernel
theorem dX12_begins_53 : decode cX12_begins 53 = .ok (.iconst 0, 1) := by decide +kernel
theorem dX12_begins_54 : decode cX12_begins 54 = .ok (.putfield 347, 3) := by decide +kernel
theorem dX12_begins_57 : decode cX12_begins 57 = .ok (.aload_n 0, 1) := by decide +kernel
theorem dX12_begins_58 : decode cX12_begins 58 = .ok (.iload_n 2, 1) := by decide +kernel
theorem dX12_begins_59 : decode cX12_begins 59 = .ok (.iload_n 3, 1) := by decide +kernel
theorem dX12_begins_60 : decode cX12_begins 60 = .ok (.iadd, 1) := by decide +kernel
theorem dX12_begins_61 : decode cX12_begins 61 = .ok (.putfield 350, 3) := by decide +kernel
theorem dX12_begins_64 : decode cX12_begins 64 = .ok (.aload_n 0, 1) := by decide +kernel
theorem dX12_begins_65 : decode cX12_begins 65 = .ok (.iconst 0, 1) := by decide +kernel
theorem dX12_begins_66 : decode cX12_begins 66 = .ok (.putfield 352, 3) := by decide +kernel
theorem dX12_begins_69 : decode cX12_begins 69 = .ok (.aload_n 0, 1) := by decide +kernel
theorem dX12_begins_70 : decode cX12_begins 70 = .ok (.aload_n 0, 1) := by decide +kernel
theorem dX12_begins_71 : decode cX12_begins 71 = .ok (.getfield 339, 3) := by decide +kernel
theorem dX12_begins_74 : decode cX12_begins 74 = .ok (.putfield 355, 3) := by decide +kernel
theorem dX12_begins_77 : decode cX12_begins 77 = .ok (.return_, 1) := by decide +kernel
theorem dX12_ticksOn_0 : decode cX12_ticksOn 0 = .ok (.aload_n 0, 1) := by decide +kernel
theorem dX12_ticksOn_1 : decode cX12_ticksOn 1 = .ok (.getfield 34, 3) := by decide +kernel
theorem dX12_ticksOn_4 : decode cX12_ticksOn 4 = .ok (.iconst 1, 1) := by decide +kernel
theorem dX12_ticksOn_5 : decode cX12_ticksOn 5 = .ok (.aload_n 0, 1) := by decide +kernel
theorem dX12_ticksOn_6 : decode cX12_ticksOn 6 = .ok (.getfield 335, 3) := by decide +kernel
theorem dX12_ticksOn_9 : decode cX12_ticksOn 9 = .ok (.iastore, 1) := by decide +kernel
theorem dX12_ticksOn_10 : decode cX12_ticksOn 10 = .ok (.aload_n 0, 1) := by decide +kernel
theorem dX12_ticksOn_11 : decode cX12_ticksOn 11 = .ok (.getfield 34, 3) := by decide +kernel
theorem dX12_ticksOn_14 : decode cX12_ticksOn 14 = .ok (.iconst 2, 1) := by decide +kernel
theorem dX12_ticksOn_15 : decode cX12_ticksOn 15 = .ok (.aload_n 0, 1) := by decide +kernel
theorem dX12_ticksOn_16 : decode cX12_ticksOn 16 = .ok (.getfield 337, 3) := by decide +kernel
theorem dX12_ticksOn_19 : decode cX12_ticksOn 19 = .ok (.iastore, 1) := by decide +kernel
theorem dX12_ticksOn_20 : decode cX12_ticksOn 20 = .ok (.aload_n 0, 1) := by decide +kernel
theorem dX12_ticksOn_21 : decode cX12_ticksOn 21 = .ok (.getfield 34, 3) := by decide +kernel
theorem dX12_ticksOn_24 : decode cX12_ticksOn 24 = .ok (.iconst 3, 1) := by decide +kernel
theorem dX12_ticksOn_25 : decode cX12_ticksOn 25 = .ok (.aload_n 0, 1) := by decide +kernel
theorem dX12_ticksOn_26 : decode cX12_ticksOn 26 = .ok (.getfield 339, 3) := by decide +kernel
theorem dX12_ticksOn_29 : decode cX12_ticksOn 29 = .ok (.iastore, 1) := by decide +kernel
theorem dX12_ticksOn_30 : decode cX12_ticksOn 30 = .ok (.aload_n 0, 1) := by decide +kernel
theorem dX12_ticksOn_31 : decode cX12_ticksOn 31 = .ok (.getfield 34, 3) := by decide +kernel
theorem dX12_ticksOn_34 : decode cX12_ticksOn 34 = .ok (.iconst 4, 1) := by decide +kernel
theorem dX12_ticksOn_35 : decode cX12_ticksOn 35 = .ok (.aload_n 0, 1) := by decide +kernel
theorem dX12_ticksOn_36 : decode cX12_ticksOn 36 = .ok (.getfield 350, 3) := by decide +kernel
theorem dX12_ticksOn_39 : decode cX12_ticksOn 39 = .ok (.iastore, 1) := by decide +kernel
theorem dX12_ticksOn_40 : decode cX12_ticksOn 40 = .ok (.aload_n 0, 1) := by decide +kernel
theorem dX12_ticksOn_41 : decode cX12_ticksOn 41 = .ok (.getfield 34, 3) := by decide +kernel
theorem dX12_ticksOn_44 : decode cX12_ticksOn 44 = .ok (.iconst 5, 1) := by decide +kernel
theorem dX12_ticksOn_45 : decode cX12_ticksOn 45 = .ok (.iload_n 2, 1) := by decide +kernel
theorem dX12_ticksOn_46 : decode cX12_ticksOn 46 = .ok (.iastore, 1) := by decide +kernel
theorem dX12_ticksOn_47 : decode cX12_ticksOn 47 = .ok (.aload_n 0, 1) := by decide +kernel
theorem dX12_ticksOn_48 : decode cX12_ticksOn 48 = .ok (.getfield 34, 3) := by decide +kernel
theorem dX12_ticksOn_51 : decode cX12_ticksOn 51 = .ok (.bipush 6, 2) := by decide +kernel
theorem dX12_ticksOn_53 : decode cX12_ticksOn 53 = .ok (.iload_n 3, 1) := by decide +kernel
theorem dX12_ticksOn_54 : decode cX12_ticksOn 54 = .ok (.iastore, 1) := by decide +kernel
theorem dX12_ticksOn_55 : decode cX12_ticksOn 55 = .ok (.aload_n 0, 1) := by decide +kernel
theorem dX12_ticksOn_56 : decode cX12_ticksOn 56 = .ok (.getfield 34, 3) := by decide +kernel
theorem dX12_ticksOn_59 : decode cX12_ticksOn 59 = .ok (.bipush 7, 2) := by decide +kernel
theorem dX12_ticksOn_61 : decode cX12_ticksOn 61 = .ok (.aload_n 0, 1) := by decide +kernel
theorem dX12_ticksOn_62 : decode cX12_ticksOn 62 = .ok (.getfield 7, 3) := by decide +kernel
theorem dX12_ticksOn_65 : decode cX12_ticksOn 65 = .ok (.bipush 70, 2) := by decide +kernel
theorem dX12_ticksOn_67 : decode cX12_ticksOn 67 = .ok (.iconst 2, 1) := by decide +kernel
theorem dX12_ticksOn_68 : decode cX12_ticksOn 68 = .ok (.iload_n 1, 1) := by decide +kernel
theorem dX12_ticksOn_69 : decode cX12_ticksOn 69 = .ok (.imul, 1) := by decide +kernel
theorem dX12_ticksOn_70 : decode cX12_ticksOn 70 = .ok (.iadd, 1) := by decide +kernel
theorem dX12_ticksOn_71 : decode cX12_ticksOn 71 = .ok (.iaload, 1) := by decide +kernel
theorem dX12_ticksOn_72 : decode cX12_ticksOn 72 = .ok (.iastore, 1) := by decide +kernel
theorem dX12_ticksOn_73 : decode cX12_ticksOn 73 = .ok (.aload_n 0, 1) := by decide +kernel
theorem dX12_ticksOn_74 : decode cX12_ticksOn 74 = .ok (.getfield 34, 3) := by decide +kernel
theorem dX12_ticksOn_77 : decode cX12_ticksOn 77 = .ok (.bipush 8, 2) := by decide +kernel
theorem dX12_ticksOn_79 : decode cX12_ticksOn 79 = .ok (.aload_n 0, 1) := by decide +kernel
theorem dX12_ticksOn_80 : decode cX12_ticksOn 80 = .ok (.getfield 7, 3) := by decide +kernel
theorem dX12_ticksOn_83 : decode cX12_ticksOn 83 = .ok (.bipush 70, 2) := by decide +kernel
theorem dX12_ticksOn_85 : decode cX12_ticksOn 85 = .ok (.iconst 2, 1) := by decide +kernel
theorem dX12_ticksOn_86 : decode cX12_ticksOn 86 = .ok (.iload_n 1, 1) := by decide +kernel
theorem dX12_ticksOn_87 : decode cX12_ticksOn 87 = .ok (.imul, 1) := by decide +kernel
theorem dX12_ticksOn_88 : decode cX12_ticksOn 88 = .ok (.iadd, 1) := by decide +kernel
theorem dX12_ticksOn_89 : decode cX12_ticksOn 89 = .ok (.iconst 1, 1) := by decide +kernel
theorem dX12_ticksOn_90 : decode cX12_ticksOn 90 = .ok (.iadd, 1) := by decide +kernel
theorem dX12_ticksOn_91 : decode cX12_ticksOn 91 = .ok (.iaload, 1) := by decide +kernel
theorem dX12_ticksOn_92 : decode cX12_ticksOn 92 = .ok (.iastore, 1) := by decide +kernel
theorem dX12_ticksOn_93 : decode cX12_ticksOn 93 = .ok (.aload_n 0, 1) := by decide +kernel
theorem dX12_ticksOn_94 : decode cX12_ticksOn 94 = .ok (.getfield 34, 3) := by decide +kernel
theorem dX12_ticksOn_97 : decode cX12_ticksOn 97 = .ok (.bipush 9, 2) := by decide +kernel
theorem dX12_ticksOn_99 : decode cX12_ticksOn 99 = .ok (.aload_n 0, 1) := by decide +kernel
theorem dX12_ticksOn_100 : decode cX12_ticksOn 100 = .ok (.getfield 352, 3) := by decide +kernel
theorem dX12_ticksOn_103 : decode cX12_ticksOn 103 = .ok (.iastore, 1) := by decide +kernel
theorem dX12_ticksOn_104 : decode cX12_ticksOn 104 = .ok (.aload_n 0, 1) := by decide +kernel
theorem dX12_ticksOn_105 : decode cX12_ticksOn 105 = .ok (.dup, 1) := by decide +kernel
theorem dX12_ticksOn_106 : decode cX12_ticksOn 106 = .ok (.getfield 337, 3) := by decide +kernel
theorem dX12_ticksOn_109 : decode cX12_ticksOn 109 = .ok (.aload_n 0, 1) := by decide +kernel
theorem dX12_ticksOn_110 : decode cX12_ticksOn 110 = .ok (.iconst 0, 1) := by decide +kernel
theorem dX12_ticksOn_111 : decode cX12_ticksOn 111 = .ok (.bipush 20, 2) := by decide +kernel
theorem dX12_ticksOn_113 : decode cX12_ticksOn 113 = .ok (.bipush (-20), 2) := by decide +kernel
theorem dX12_ticksOn_115 : decode cX12_ticksOn 115 = .ok (.bipush 20, 2) := by decide +kernel
theorem dX12_ticksOn_117 : decode cX12_ticksOn 117 = .ok (.invokevirtual 327, 3) := by decide +kernel
theorem dX12_ticksOn_120 : decode cX12_ticksOn 120 = .ok (.bipush 10, 2) := by decide +kernel
theorem dX12_ticksOn_122 : decode cX12_ticksOn 122 = .ok (.isub, 1) := by decide +kernel
theorem dX12_ticksOn_123 : decode cX12_ticksOn 123 = .ok (.iadd, 1) := by decide +kernel
theorem dX12_ticksOn_124 : decode cX12_ticksOn 124 = .ok (.putfield 337, 3) := by decide +kernel
theorem dX12_ticksOn_127 : decode cX12_ticksOn 127 = .ok (.aload_n 0, 1) := by decide +kernel
theorem dX12_ticksOn_128 : decode cX12_ticksOn 128 = .ok (.iconst 0, 1) := by decide +kernel
theorem dX12_ticksOn_129 : decode cX12_ticksOn 129 = .ok (.aload_n 0, 1) := by decide +kernel
theorem dX12_ticksOn_130 : decode cX12_ticksOn 130 = .ok (.getfield 335, 3) := by decide +kernel
theorem dX12_ticksOn_133 : decode cX12_ticksOn 133 = .ok (.aload_n 0, 1) := by decide +kernel
theorem dX12_ticksOn_134 : decode cX12_ticksOn 134 = .ok (.iconst 0, 1) := by decide +kernel
theorem dX12_ticksOn_135 : decode cX12_ticksOn 135 = .ok (.bipush 21, 2) := by decide +kernel
theorem dX12_ticksOn_137 : decode cX12_ticksOn 137 = .ok (.iconst 0, 1) := by decide +kernel
theorem dX12_ticksOn_138 : decode cX12_ticksOn 138 = .ok (.bipush 50, 2) := by decide +kernel
theorem dX12_ticksOn_140 : decode cX12_ticksOn 140 = .ok (.invokevirtual 327, 3) := by decide +kernel
theorem dX12_ticksOn_143 : decode cX12_ticksOn 143 = .ok (.isub, 1) := by decide +kernel
theorem dX12_ticksOn_144 : decode cX12_ticksOn 144 = .ok (.invokestatic 68, 3) := by decide +kernel
theorem dX12_ticksOn_147 : decode cX12_ticksOn 147 = .ok (.putfield 335, 3) := by decide +kernel
theorem dX12_ticksOn_150 : decode cX12_ticksOn 150 = .ok (.aload_n 0, 1) := by decide +kernel
theorem dX12_ticksOn_151 : decode cX12_ticksOn 151 = .ok (.dup, 1) := by decide +kernel
theorem dX12_ticksOn_152 : decode cX12_ticksOn 152 = .ok (.getfield 350, 3) := by decide +kernel
theorem dX12_ticksOn_155 : decode cX12_ticksOn 155 = .ok (.aload_n 0, 1) := by decide +kernel
theorem dX12_ticksOn_156 : decode cX12_ticksOn 156 = .ok (.iconst 0, 1) := by decide +kernel
theorem dX12_ticksOn_157 : decode cX12_ticksOn 157 = .ok (.bipush 22, 2) := by decide +kernel
theorem dX12_ticksOn_159 : decode cX12_ticksOn 159 = .ok (.bipush (-9), 2) := by decide +kernel
theorem dX12_ticksOn_161 : decode cX12_ticksOn 161 = .ok (.bipush 9, 2) := by decide +kernel
theorem dX12_ticksOn_163 : decode cX12_ticksOn 163 = .ok (.invokevirtual 327, 3) := by decide +kernel
theorem dX12_ticksOn_166 : decode cX12_ticksOn 166 = .ok (.isub, 1) := by decide +kernel
theorem dX12_ticksOn_167 : decode cX12_ticksOn 167 = .ok (.putfield 350, 3) := by decide +kernel
theorem dX12_ticksOn_170 : decode cX12_ticksOn 170 = .ok (.aload_n 0, 1) := by decide +kernel
theorem dX12_ticksOn_171 : decode cX12_ticksOn 171 = .ok (.dup, 1) := by decide +kernel
theorem dX12_ticksOn_172 : decode cX12_ticksOn 172 = .ok (.getfield 347, 3) := by decide +kernel
theorem dX12_ticksOn_175 : decode cX12_ticksOn 175 = .ok (.aload_n 0, 1) := by decide +kernel
theorem dX12_ticksOn_176 : decode cX12_ticksOn 176 = .ok (.iconst 0, 1) := by decide +kernel
theorem dX12_ticksOn_177 : decode cX12_ticksOn 177 = .ok (.bipush 23, 2) := by decide +kernel
theorem dX12_ticksOn_179 : decode cX12_ticksOn 179 = .ok (.bipush (-9), 2) := by decide +kernel
theorem dX12_ticksOn_181 : decode cX12_ticksOn 181 = .ok (.bipush 9, 2) := by decide +kernel
theorem dX12_ticksOn_183 : decode cX12_ticksOn 183 = .ok (.invokevirtual 327, 3) := by decide +kernel
theorem dX12_ticksOn_186 : decode cX12_ticksOn 186 = .ok (.iadd, 1) := by decide +kernel
theorem dX12_ticksOn_187 : decode cX12_ticksOn 187 = .ok (.putfield 347, 3) := by decide +kernel
theorem dX12_ticksOn_190 : decode cX12_ticksOn 190 = .ok (.aload_n 0, 1) := by decide +kernel
theorem dX12_ticksOn_191 : decode cX12_ticksOn 191 = .ok (.dup, 1) := by decide +kernel
theorem dX12_ticksOn_192 : decode cX12_ticksOn 192 = .ok (.getfield 341, 3) := by decide +kernel
theorem dX12_ticksOn_195 : decode cX12_ticksOn 195 = .ok (.aload_n 0, 1) := by decide +kernel
theorem dX12_ticksOn_196 : decode cX12_ticksOn 196 = .ok (.getfield 335, 3) := by decide +kernel
theorem dX12_ticksOn_199 : decode cX12_ticksOn 199 = .ok (.iadd, 1) := by decide +kernel
theorem dX12_ticksOn_200 : decode cX12_ticksOn 200 = .ok (.putfield 341, 3) := by decide +kernel
theorem dX12_ticksOn_203 : decode cX12_ticksOn 203 = .ok (.aload_n 0, 1) := by decide +kernel
theorem dX12_ticksOn_204 : decode cX12_ticksOn 204 = .ok (.dup, 1) := by decide +kernel
theorem dX12_ticksOn_205 : decode cX12_ticksOn 205 = .ok (.getfield 339, 3) := by decide +kernel
theorem dX12_ticksOn_208 : decode cX12_ticksOn 208 = .ok (.aload_n 0, 1) := by decide +kernel
theorem dX12_ticksOn_209 : decode cX12_ticksOn 209 = .ok (.getfield 337, 3) := by decide +kernel
theorem dX12_ticksOn_212 : decode cX12_ticksOn 212 = .ok (.iadd, 1) := by decide +kernel
theorem dX12_ticksOn_213 : decode cX12_ticksOn 213 = .ok (.putfield 339, 3) := by decide +kernel
theorem dX12_ticksOn_216 : decode cX12_ticksOn 216 = .ok (.aload_n 0, 1) := by decide +kernel
theorem dX12_ticksOn_217 : decode cX12_ticksOn 217 = .ok (.dup, 1) := by decide +kernel
theorem dX12_ticksOn_218 : decode cX12_ticksOn 218 = .ok (.getfield 344, 3) := by decide +kernel
theorem dX12_ticksOn_221 : decode cX12_ticksOn 221 = .ok (.aload_n 0, 1) := by decide +kernel
theorem dX12_ticksOn_222 : decode cX12_ticksOn 222 = .ok (.getfield 347, 3) := by decide +kernel
theorem dX12_ticksOn_225 : decode cX12_ticksOn 225 = .ok (.iadd, 1) := by decide +kernel
theorem dX12_ticksOn_226 : decode cX12_ticksOn 226 = .ok (.putfield 344, 3) := by decide +kernel
theorem dX12_ticksOn_229 : decode cX12_ticksOn 229 = .ok (.aload_n 0, 1) := by decide +kernel
theorem dX12_ticksOn_230 : decode cX12_ticksOn 230 = .ok (.dup, 1) := by decide +kernel
theorem dX12_ticksOn_231 : decode cX12_ticksOn 231 = .ok (.getfield 352, 3) := by decide +kernel
theorem dX12_ticksOn_234 : decode cX12_ticksOn 234 = .ok (.iconst 1, 1) := by decide +kernel
theorem dX12_ticksOn_235 : decode cX12_ticksOn 235 = .ok (.iadd, 1) := by decide +kernel
theorem dX12_ticksOn_236 : decode cX12_ticksOn 236 = .ok (.putfield 352, 3) := by decide +kernel
theorem dX12_ticksOn_239 : decode cX12_ticksOn 239 = .ok (.aload_n 0, 1) := by decide +kernel
theorem dX12_ticksOn_240 : decode cX12_ticksOn 240 = .ok (.aload_n 0, 1) := by decide +kernel
theorem dX12_ticksOn_241 : decode cX12_ticksOn 241 = .ok (.getfield 355, 3) := by decide +kernel
theorem dX12_ticksOn_244 : decode cX12_ticksOn 244 = .ok (.aload_n 0, 1) := by decide +kernel
theorem dX12_ticksOn_245 : decode cX12_ticksOn 245 = .ok (.getfield 339, 3) := by decide +kernel
theorem dX12_ticksOn_248 : decode cX12_ticksOn 248 = .ok (.invokestatic 68, 3) := by decide +kernel
theorem dX12_ticksOn_251 : decode cX12_ticksOn 251 = .ok (.putfield 355, 3) := by decide +kernel
theorem dX12_ticksOn_254 : decode cX12_ticksOn 254 = .ok (.return_, 1) := by decide +kernel
theorem dX12_flies_0 : decode cX12_flies 0 = .ok (.aload_n 0, 1) := by decide +kernel
theorem dX12_flies_1 : decode cX12_flies 1 = .ok (.iload_n 1, 1) := by decide +kernel
theorem dX12_flies_2 : decode cX12_flies 2 = .ok (.iload_n 2, 1) := by decide +kernel
theorem dX12_flies_3 : decode cX12_flies 3 = .ok (.iload_n 3, 1) := by decide +kernel
theorem dX12_flies_4 : decode cX12_flies 4 = .ok (.invokevirtual 358, 3) := by decide +kernel
theorem dX12_flies_7 : decode cX12_flies 7 = .ok (.aload_n 0, 1) := by decide +kernel
theorem dX12_flies_8 : decode cX12_flies 8 = .ok (.getfield 352, 3) := by decide +kernel
theorem dX12_flies_11 : decode cX12_flies 11 = .ok (.sipush 400, 3) := by decide +kernel
theorem dX12_flies_14 : decode cX12_flies 14 = .ok (.if_icmp .ge 23, 3) := by decide +kernel
theorem dX12_flies_17 : decode cX12_flies 17 = .ok (.aload_n 0, 1) := by decide +kernel
theorem dX12_flies_18 : decode cX12_flies 18 = .ok (.getfield 339, 3) := by decide +kernel
theorem dX12_flies_21 : decode cX12_flies 21 = .ok (.ifCond .le 16, 3) := by decide +kernel
theorem dX12_flies_24 : decode cX12_flies 24 = .ok (.aload_n 0, 1) := by decide +kernel
theorem dX12_flies_25 : decode cX12_flies 25 = .ok (.iload 4, 2) := by decide +kernel
theorem dX12_flies_27 : decode cX12_flies 27 = .ok (.iload 5, 2) := by decide +kernel
theorem dX12_flies_29 : decode cX12_flies 29 = .ok (.iload 6, 2) := by decide +kernel
theorem dX12_flies_31 : decode cX12_flies 31 = .ok (.invokevirtual 361, 3) := by decide +kernel
theorem dX12_flies_34 : decode cX12_flies 34 = .ok (.goto (-27), 3) := by decide +kernel
theorem dX12_flies_37 : decode cX12_flies 37 = .ok (.return_, 1) := by decide +kernel
theorem dX12_landed_0 : decode cX12_landed 0 = .ok (.aload_n 0, 1) := by decide +kernel
theorem dX12_landed_1 : decode cX12_landed 1 = .ok (.getfield 350, 3) := by decide +kernel
theorem dX12_landed_4 : decode cX12_landed 4 = .ok (.ifCond .ge 7, 3) := by decide +kernel
theorem dX12_landed_7 : decode cX12_landed 7 = .ok (.iconst 0, 1) := by decide +kernel
theorem dX12_landed_8 : decode cX12_landed 8 = .ok (.goto 17, 3) := by decide +kernel
theorem dX12_landed_11 : decode cX12_landed 11 = .ok (.aload_n 0, 1) := by decide +kernel
theorem dX12_landed_12 : decode cX12_landed 12 = .ok (.getfield 350, 3) := by decide +kernel
theorem dX12_landed_15 : decode cX12_landed 15 = .ok (.bipush 10, 2) := by decide +kernel
theorem dX12_landed_17 : decode cX12_landed 17 = .ok (.if_icmp .ge 7, 3) := by decide +kernel
theorem dX12_landed_20 : decode cX12_landed 20 = .ok (.iconst 1, 1) := by decide +kernel
theorem dX12_landed_21 : decode cX12_landed 21 = .ok (.goto 4, 3) := by decide +kernel
theorem dX12_landed_24 : decode cX12_landed 24 = .ok (.iconst 2, 1) := by decide +kernel
theorem dX12_landed_25 : decode cX12_landed 25 = .ok (.ireturn, 1) := by decide +kernel
theorem dX12_isInSector_0 : decode cX12_isInSector 0 = .ok (.aload_n 0, 1) := by decide +kernel
theorem dX12_isInSector_1 : decode cX12_isInSector 1 = .ok (.getfield 344, 3) := by decide +kernel
theorem dX12_isInSector_4 : decode cX12_isInSector 4 = .ok (.ifCond .ge 11, 3) := by decide +kernel
theorem dX12_isInSector_7 : decode cX12_isInSector 7 = .ok (.aload_n 0, 1) := by decide +kernel
theorem dX12_isInSector_8 : decode cX12_isInSector 8 = .ok (.getfield 344, 3) := by decide +kernel
theorem dX12_isInSector_11 : decode cX12_isInSector 11 = .ok (.ineg, 1) := by decide +kernel
theorem dX12_isInSector_12 : decode cX12_isInSector 12 = .ok (.goto 7, 3) := by decide +kernel
theorem dX12_isInSector_15 : decode cX12_isInSector 15 = .ok (.aload_n 0, 1) := by decide +kernel
theorem dX12_isInSector_16 : decode cX12_isInSector 16 = .ok (.getfield 344, 3) := by decide +kernel
theorem dX12_isInSector_19 : decode cX12_isInSector 19 = .ok (.aload_n 0, 1) := by decide +kernel
theorem dX12_isInSector_20 : decode cX12_isInSector 20 = .ok (.iconst 4, 1) := by decide +kernel
theorem dX12_isInSector_21 : decode cX12_isInSector 21 = .ok (.invokevirtual 364, 3) := by decide +kernel
theorem dX12_isInSector_24 : decode cX12_isInSector 24 = .ok (.imul, 1) := by decide +kernel
theorem dX12_isInSector_25 : decode cX12_isInSector 25 = .ok (.aload_n 0, 1) := by decide +kernel
theorem dX12_isInSector_26 : decode cX12_isInSector 26 = .ok (.getfield 341, 3) := by decide +kernel
theorem dX12_isInSector_29 : decode cX12_isInSector 29 = .ok (.if_icmp .gt 7, 3) := by decide +kernel
theorem dX12_isInSector_32 : decode cX12_isInSector 32 = .ok (.iconst 1, 1) := by decide +kernel
theorem dX12_isInSector_33 : decode cX12_isInSector 33 = .ok (.goto 4, 3) := by decide +kernel
theorem dX12_isInSector_36 : decode cX12_isInSector 36 = .ok (.iconst 0, 1) := by decide +kernel
theorem dX12_isInSector_37 : decode cX12_isInSector 37 = .ok (.ireturn, 1) := by decide +kernel
theorem dX12_isGood_0 : decode cX12_isGood 0 = .ok (.aload_n 0, 1) := by decide +kernel
theorem dX12_isGood_1 : decode cX12_isGood 1 = .ok (.invokevirtual 367, 3) := by decide +kernel
theorem dX12_isGood_4 : decode cX12_isGood 4 = .ok (.ifCond .ne 14, 3) := by decide +kernel
theorem dX12_isGood_7 : decode cX12_isGood 7 = .ok (.aload_n 0, 1) := by decide +kernel
theorem dX12_isGood_8 : decode cX12_isGood 8 = .ok (.invokevirtual 370, 3) := by decide +kernel
theorem dX12_isGood_11 : decode cX12_isGood 11 = .ok (.ifCond .eq 7, 3) := by decide +kernel
theorem dX12_isGood_14 : decode cX12_isGood 14 = .ok (.iconst 1, 1) := by decide +kernel
theorem dX12_isGood_15 : decode cX12_isGood 15 = .ok (.goto 4, 3) := by decide +kernel
theorem dX12_isGood_18 : decode cX12_isGood 18 = .ok (.iconst 0, 1) := by decide +kernel
theorem dX12_isGood_19 : decode cX12_isGood 19 = .ok (.ireturn, 1) := by decide +kernel
theorem dX12_keeps_0 : decode cX12_keeps 0 = .ok (.aload_n 0, 1) := by decide +kernel
theorem dX12_keeps_1 : decode cX12_keeps 1 = .ok (.getfield 75, 3) := by decide +kernel
theorem dX12_keeps_4 : decode cX12_keeps 4 = .ok (.bipush 8, 2) := by decide +kernel
theorem dX12_keeps_6 : decode cX12_keeps 6 = .ok (.if_icmp .ne 43, 3) := by decide +kernel
theorem dX12_keeps_9 : decode cX12_keeps 9 = .ok (.iconst 0, 1) := by decide +kernel
theorem dX12_keeps_10 : decode cX12_keeps 10 = .ok (.istore_n 1, 1) := by decide +kernel
theorem dX12_keeps_11 : decode cX12_keeps 11 = .ok (.iload_n 1, 1) := by decide +kernel
theorem dX12_keeps_12 : decode cX12_keeps 12 = .ok (.sipush 420, 3) := by decide +kernel
theorem dX12_keeps_15 : decode cX12_keeps 15 = .ok (.if_icmp .ge 24, 3) := by decide +kernel
theorem dX12_keeps_18 : decode cX12_keeps 18 = .ok (.aload_n 0, 1) := by decide +kernel
theorem dX12_keeps_19 : decode cX12_keeps 19 = .ok (.getfield 16, 3) := by decide +kernel
theorem dX12_keeps_22 : decode cX12_keeps 22 = .ok (.iload_n 1, 1) := by decide +kernel
theorem dX12_keeps_23 : decode cX12_keeps 23 = .ok (.aload_n 0, 1) := by decide +kernel
theorem dX12_keeps_24 : decode cX12_keeps 24 = .ok (.getfield 16, 3) := by decide +kernel
theorem dX12_keeps_27 : decode cX12_keeps 27 = .ok (.iload_n 1, 1) := by decide +kernel
theorem dX12_keeps_28 : decode cX12_keeps 28 = .ok (.bipush 60, 2) := by decide +kernel
theorem dX12_keeps_30 : decode cX12_keeps 30 = .ok (.iadd, 1) := by decide +kernel
theorem dX12_keeps_31 : decode cX12_keeps 31 = .ok (.iaload, 1) := by decide +kernel
theorem dX12_keeps_32 : decode cX12_keeps 32 = .ok (.iastore, 1) := by decide +kernel
theorem dX12_keeps_33 : decode cX12_keeps 33 = .ok (.iinc 1 1, 3) := by decide +kernel
theorem dX12_keeps_36 : decode cX12_keeps 36 = .ok (.goto (-25), 3) := by decide +kernel
theorem dX12_keeps_39 : decode cX12_keeps 39 = .ok (.aload_n 0, 1) := by decide +kernel
theorem dX12_keeps_40 : decode cX12_keeps 40 = .ok (.dup, 1) := by decide +kernel
theorem dX12_keeps_41 : decode cX12_keeps 41 = .ok (.getfield 75, 3) := by decide +kernel
theorem dX12_keeps_44 : decode cX12_keeps 44 = .ok (.iconst 1, 1) := by decide +kernel
theorem dX12_keeps_45 : decode cX12_keeps 45 = .ok (.isub, 1) := by decide +kernel
theorem dX12_keeps_46 : decode cX12_keeps 46 = .ok (.putfield 75, 3) := by decide +kernel
theorem dX12_keeps_49 : decode cX12_keeps 49 = .ok (.iconst 0, 1) := by decide +kernel
theorem dX12_keeps_50 : decode cX12_keeps 50 = .ok (.istore_n 1, 1) := by decide +kernel
theorem dX12_keeps_51 : decode cX12_keeps 51 = .ok (.iload_n 1, 1) := by decide +kernel
theorem dX12_keeps_52 : decode cX12_keeps 52 = .ok (.bipush 60, 2) := by decide +kernel
theorem dX12_keeps_54 : decode cX12_keeps 54 = .ok (.if_icmp .ge 29, 3) := by decide +kernel
theorem dX12_keeps_57 : decode cX12_keeps 57 = .ok (.aload_n 0, 1) := by decide +kernel
theorem dX12_keeps_58 : decode cX12_keeps 58 = .ok (.getfield 16, 3) := by decide +kernel
theorem dX12_keeps_61 : decode cX12_keeps 61 = .ok (.bipush 60, 2) := by decide +kernel
theorem dX12_keeps_63 : decode cX12_keeps 63 = .ok (.aload_n 0, 1) := by decide +kernel
theorem dX12_keeps_64 : decode cX12_keeps 64 = .ok (.getfield 75, 3) := by decide +kernel
theorem dX12_keeps_67 : decode cX12_keeps 67 = .ok (.imul, 1) := by decide +kernel
theorem dX12_keeps_68 : decode cX12_keeps 68 = .ok (.iload_n 1, 1) := by decide +kernel
theorem dX12_keeps_69 : decode cX12_keeps 69 = .ok (.iadd, 1) := by decide +kernel
theorem dX12_keeps_70 : decode cX12_keeps 70 = .ok (.aload_n 0, 1) := by decide +kernel
theorem dX12_keeps_71 : decode cX12_keeps 71 = .ok (.getfield 7, 3) := by decide +kernel
theorem dX12_keeps_74 : decode cX12_keeps 74 = .ok (.iload_n 1, 1) := by decide +kernel
theorem dX12_keeps_75 : decode cX12_keeps 75 = .ok (.iaload, 1) := by decide +kernel
theorem dX12_keeps_76 : decode cX12_keeps 76 = .ok (.iastore, 1) := by decide +kernel
theorem dX12_keeps_77 : decode cX12_keeps 77 = .ok (.iinc 1 1, 3) := by decide +kernel
theorem dX12_keeps_80 : decode cX12_keeps 80 = .ok (.goto (-29), 3) := by decide +kernel
theorem dX12_keeps_83 : decode cX12_keeps 83 = .ok (.aload_n 0, 1) := by decide +kernel
theorem dX12_keeps_84 : decode cX12_keeps 84 = .ok (.dup, 1) := by decide +kernel
theorem dX12_keeps_85 : decode cX12_keeps 85 = .ok (.getfield 75, 3) := by decide +kernel
theorem dX12_keeps_88 : decode cX12_keeps 88 = .ok (.iconst 1, 1) := by decide +kernel
theorem dX12_keeps_89 : decode cX12_keeps 89 = .ok (.iadd, 1) := by decide +kernel
theorem dX12_keeps_90 : decode cX12_keeps 90 = .ok (.putfield 75, 3) := by decide +kernel
theorem dX12_keeps_93 : decode cX12_keeps 93 = .ok (.return_, 1) := by decide +kernel
theorem dX12_undo_0 : decode cX12_undo 0 = .ok (.aload_n 0, 1) := by decide +kernel
theorem dX12_undo_1 : decode cX12_undo 1 = .ok (.getfield 75, 3) := by decide +kernel
theorem dX12_undo_4 : decode cX12_undo 4 = .ok (.ifCond .ne 5, 3) := by decide +kernel
theorem dX12_undo_7 : decode cX12_undo 7 = .ok (.iconst 0, 1) := by decide +kernel
theorem dX12_undo_8 : decode cX12_undo 8 = .ok (.ireturn, 1) := by decide +kernel
theorem dX12_undo_9 : decode cX12_undo 9 = .ok (.aload_n 0, 1) := by decide +kernel
theorem dX12_undo_10 : decode cX12_undo 10 = .ok (.dup, 1) := by decide +kernel
theorem dX12_undo_11 : decode cX12_undo 11 = .ok (.getfield 75, 3) := by decide +kernel
theorem dX12_undo_14 : decode cX12_undo 14 = .ok (.iconst 1, 1) := by decide +kernel
theorem dX12_undo_15 : decode cX12_undo 15 = .ok (.isub, 1) := by decide +kernel
theorem dX12_undo_16 : decode cX12_undo 16 = .ok (.putfield 75, 3) := by decide +kernel
theorem dX12_undo_19 : decode cX12_undo 19 = .ok (.iconst 0, 1) := by decide +kernel
theorem dX12_undo_20 : decode cX12_undo 20 = .ok (.istore_n 1, 1) := by decide +kernel
theorem dX12_undo_21 : decode cX12_undo 21 = .ok (.iload_n 1, 1) := by decide +kernel
theorem dX12_undo_22 : decode cX12_undo 22 = .ok (.bipush 60, 2) := by decide +kernel
theorem dX12_undo_24 : decode cX12_undo 24 = .ok (.if_icmp .ge 29, 3) := by decide +kernel
theorem dX12_undo_27 : decode cX12_undo 27 = .ok (.aload_n 0, 1) := by decide +kernel
theorem dX12_undo_28 : decode cX12_undo 28 = .ok (.getfield 7, 3) := by decide +kernel
theorem dX12_undo_31 : decode cX12_undo 31 = .ok (.iload_n 1, 1) := by decide +kernel
theorem dX12_undo_32 : decode cX12_undo 32 = .ok (.aload_n 0, 1) := by decide +kernel
theorem dX12_undo_33 : decode cX12_undo 33 = .ok (.getfield 16, 3) := by decide +kernel
theorem dX12_undo_36 : decode cX12_undo 36 = .ok (.bipush 60, 2) := by decide +kernel
theorem dX12_undo_38 : decode cX12_undo 38 = .ok (.aload_n 0, 1) := by decide +kernel
theorem dX12_undo_39 : decode cX12_undo 39 = .ok (.getfield 75, 3) := by decide +kernel
theorem dX12_undo_42 : decode cX12_undo 42 = .ok (.imul, 1) := by decide +kernel
theorem dX12_undo_43 : decode cX12_undo 43 = .ok (.iload_n 1, 1) := by decide +kernel
theorem dX12_undo_44 : decode cX12_undo 44 = .ok (.iadd, 1) := by decide +kernel
theorem dX12_undo_45 : decode cX12_undo 45 = .ok (.iaload, 1) := by decide +kernel
theorem dX12_undo_46 : decode cX12_undo 46 = .ok (.iastore, 1) := by decide +kernel
theorem dX12_undo_47 : decode cX12_undo 47 = .ok (.iinc 1 1, 3) := by decide +kernel
theorem dX12_undo_50 : decode cX12_undo 50 = .ok (.goto (-29), 3) := by decide +kernel
theorem dX12_undo_53 : decode cX12_undo 53 = .ok (.iconst 1, 1) := by decide +kernel
theorem dX12_undo_54 : decode cX12_undo 54 = .ok (.ireturn, 1) := by decide +kernel
theorem dX12_nextTurn_0 : decode cX12_nextTurn 0 = .ok (.aload_n 0, 1) := by decide +kernel
theorem dX12_nextTurn_1 : decode cX12_nextTurn 1 = .ok (.getfield 7, 3) := by decide +kernel
theorem dX12_nextTurn_4 : decode cX12_nextTurn 4 = .ok (.iconst 1, 1) := by decide +kernel
theorem dX12_nextTurn_5 : decode cX12_nextTurn 5 = .ok (.dup2, 1) := by decide +kernel
theorem dX12_nextTurn_6 : decode cX12_nextTurn 6 = .ok (.iaload, 1) := by decide +kernel
theorem dX12_nextTurn_7 : decode cX12_nextTurn 7 = .ok (.iconst 1, 1) := by decide +kernel
theorem dX12_nextTurn_8 : decode cX12_nextTurn 8 = .ok (.iadd, 1) := by decide +kernel
theorem dX12_nextTurn_9 : decode cX12_nextTurn 9 = .ok (.iastore, 1) := by decide +kernel
theorem dX12_nextTurn_10 : decode cX12_nextTurn 10 = .ok (.aload_n 0, 1) := by decide +kernel
theorem dX12_nextTurn_11 : decode cX12_nextTurn 11 = .ok (.getfield 7, 3) := by decide +kernel
theorem dX12_nextTurn_14 : decode cX12_nextTurn 14 = .ok (.iconst 1, 1) := by decide +kernel
theorem dX12_nextTurn_15 : decode cX12_nextTurn 15 = .ok (.iaload, 1) := by decide +kernel
theorem dX12_nextTurn_16 : decode cX12_nextTurn 16 = .ok (.aload_n 0, 1) := by decide +kernel
theorem dX12_nextTurn_17 : decode cX12_nextTurn 17 = .ok (.getfield 7, 3) := by decide +kernel
theorem dX12_nextTurn_20 : decode cX12_nextTurn 20 = .ok (.bipush 68, 2) := by decide +kernel
theorem dX12_nextTurn_22 : decode cX12_nextTurn 22 = .ok (.iaload, 1) := by decide +kernel
theorem dX12_nextTurn_23 : decode cX12_nextTurn 23 = .ok (.if_icmp .ge 4, 3) := by decide +kernel
theorem dX12_nextTurn_26 : decode cX12_nextTurn 26 = .ok (.return_, 1) := by decide +kernel
theorem dX12_nextTurn_27 : decode cX12_nextTurn 27 = .ok (.aload_n 0, 1) := by decide +kernel
theorem dX12_nextTurn_28 : decode cX12_nextTurn 28 = .ok (.getfield 7, 3) := by decide +kernel
theorem dX12_nextTurn_31 : decode cX12_nextTurn 31 = .ok (.iconst 1, 1) := by decide +kernel
theorem dX12_nextTurn_32 : decode cX12_nextTurn 32 = .ok (.iconst 0, 1) := by decide +kernel
theorem dX12_nextTurn_33 : decode cX12_nextTurn 33 = .ok (.iastore, 1) := by decide +kernel
theorem dX12_nextTurn_34 : decode cX12_nextTurn 34 = .ok (.aload_n 0, 1) := by decide +kernel
theorem dX12_nextTurn_35 : decode cX12_nextTurn 35 = .ok (.getfield 7, 3) := by decide +kernel
theorem dX12_nextTurn_38 : decode cX12_nextTurn 38 = .ok (.iconst 0, 1) := by decide +kernel
theorem dX12_nextTurn_39 : decode cX12_nextTurn 39 = .ok (.dup2, 1) := by decide +kernel
theorem dX12_nextTurn_40 : decode cX12_nextTurn 40 = .ok (.iaload, 1) := by decide +kernel
theorem dX12_nextTurn_41 : decode cX12_nextTurn 41 = .ok (.iconst 1, 1) := by decide +kernel
theorem dX12_nextTurn_42 : decode cX12_nextTurn 42 = .ok (.iadd, 1) := by decide +kernel
theorem dX12_nextTurn_43 : decode cX12_nextTurn 43 = .ok (.iastore, 1) := by decide +kernel
theorem dX12_nextTurn_44 : decode cX12_nextTurn 44 = .ok (.return_, 1) := by decide +kernel
theorem dX12_slipped_0 : decode cX12_slipped 0 = .ok (.iload_n 2, 1) := by decide +kernel
theorem dX12_slipped_1 : decode cX12_slipped 1 = .ok (.ifCond .ne 7, 3) := by decide +kernel
theorem dX12_slipped_4 : decode cX12_slipped 4 = .ok (.iload_n 1, 1) := by decide +kernel
theorem dX12_slipped_5 : decode cX12_slipped 5 = .ok (.goto 16, 3) := by decide +kernel
theorem dX12_slipped_8 : decode cX12_slipped 8 = .ok (.iload_n 1, 1) := by decide +kernel
theorem dX12_slipped_9 : decode cX12_slipped 9 = .ok (.aload_n 0, 1) := by decide +kernel
theorem dX12_slipped_10 : decode cX12_slipped 10 = .ok (.iconst 2, 1) := by decide +kernel
theorem dX12_slipped_11 : decode cX12_slipped 11 = .ok (.iload_n 2, 1) := by decide +kernel
theorem dX12_slipped_12 : decode cX12_slipped 12 = .ok (.imul, 1) := by decide +kernel
theorem dX12_slipped_13 : decode cX12_slipped 13 = .ok (.iconst 1, 1) := by decide +kernel
theorem dX12_slipped_14 : decode cX12_slipped 14 = .ok (.iadd, 1) := by decide +kernel
theorem dX12_slipped_15 : decode cX12_slipped 15 = .ok (.invokevirtual 373, 3) := by decide +kernel
theorem dX12_slipped_18 : decode cX12_slipped 18 = .ok (.iadd, 1) := by decide +kernel
theorem dX12_slipped_19 : decode cX12_slipped 19 = .ok (.iload_n 2, 1) := by decide +kernel
theorem dX12_slipped_20 : decode cX12_slipped 20 = .ok (.isub, 1) := by decide +kernel
theorem dX12_slipped_21 : decode cX12_slipped 21 = .ok (.ireturn, 1) := by decide +kernel
theorem dX12_notes_0 : decode cX12_notes 0 = .ok (.aload_n 0, 1) := by decide +kernel
theorem dX12_notes_1 : decode cX12_notes 1 = .ok (.getfield 7, 3) := by decide +kernel
theorem dX12_notes_4 : decode cX12_notes 4 = .ok (.iconst 2, 1) := by decide +kernel
theorem dX12_notes_5 : decode cX12_notes 5 = .ok (.iaload, 1) := by decide +kernel
theorem dX12_notes_6 : decode cX12_notes 6 = .ok (.bipush 100, 2) := by decide +kernel
theorem dX12_notes_8 : decode cX12_notes 8 = .ok (.if_icmp .ne 4, 3) := by decide +kernel
theorem dX12_notes_11 : decode cX12_notes 11 = .ok (.return_, 1) := by decide +kernel
theorem dX12_notes_12 : decode cX12_notes 12 = .ok (.sipush 3296, 3) := by decide +kernel
theorem dX12_notes_15 : decode cX12_notes 15 = .ok (.bipush 10, 2) := by decide +kernel
theorem dX12_notes_17 : decode cX12_notes 17 = .ok (.aload_n 0, 1) := by decide +kernel
theorem dX12_notes_18 : decode cX12_notes 18 = .ok (.getfield 7, 3) := by decide +kernel
theorem dX12_notes_21 : decode cX12_notes 21 = .ok (.iconst 2, 1) := by decide +kernel
theorem dX12_notes_22 : decode cX12_notes 22 = .ok (.iaload, 1) := by decide +kernel
theorem dX12_notes_23 : decode cX12_notes 23 = .ok (.imul, 1) := by decide +kernel
theorem dX12_notes_24 : decode cX12_notes 24 = .ok (.iadd, 1) := by decide +kernel
theorem dX12_notes_25 : decode cX12_notes 25 = .ok (.istore 7, 2) := by decide +kernel
theorem dX12_notes_27 : decode cX12_notes 27 = .ok (.aload_n 0, 1) := by decide +kernel
theorem dX12_notes_28 : decode cX12_notes 28 = .ok (.getfield 7, 3) := by decide +kernel
theorem dX12_notes_31 : decode cX12_notes 31 = .ok (.iload 7, 2) := by decide +kernel
theorem dX12_notes_33 : decode cX12_notes 33 = .ok (.aload_n 0, 1) := by decide +kernel
theorem dX12_notes_34 : decode cX12_notes 34 = .ok (.getfield 7, 3) := by decide +kernel
theorem dX12_notes_37 : decode cX12_notes 37 = .ok (.bipush 66, 2) := by decide +kernel
theorem dX12_notes_39 : decode cX12_notes 39 = .ok (.iaload, 1) := by decide +kernel
theorem dX12_notes_40 : decode cX12_notes 40 = .ok (.iastore, 1) := by decide +kernel
theorem dX12_notes_41 : decode cX12_notes 41 = .ok (.aload_n 0, 1) := by decide +kernel
theorem dX12_notes_42 : decode cX12_notes 42 = .ok (.getfield 7, 3) := by decide +kernel
theorem dX12_notes_45 : decode cX12_notes 45 = .ok (.iload 7, 2) := by decide +kernel
theorem dX12_notes_47 : decode cX12_notes 47 = .ok (.iconst 1, 1) := by decide +kernel
theorem dX12_notes_48 : decode cX12_notes 48 = .ok (.iadd, 1) := by decide +kernel
theorem dX12_notes_49 : decode cX12_notes 49 = .ok (.aload_n 0, 1) := by decide +kernel
theorem dX12_notes_50 : decode cX12_notes 50 = .ok (.getfield 7, 3) := by decide +kernel
theorem dX12_notes_53 : decode cX12_notes 53 = .ok (.iconst 0, 1) := by decide +kernel
theorem dX12_notes_54 : decode cX12_notes 54 = .ok (.iaload, 1) := by decide +kernel
theorem dX12_notes_55 : decode cX12_notes 55 = .ok (.iastore, 1) := by decide +kernel
theorem dX12_notes_56 : decode cX12_notes 56 = .ok (.aload_n 0, 1) := by decide +kernel
theorem dX12_notes_57 : decode cX12_notes 57 = .ok (.getfield 7, 3) := by decide +kernel
theorem dX12_notes_60 : decode cX12_notes 60 = .ok (.iload 7, 2) := by decide +kernel
theorem dX12_notes_62 : decode cX12_notes 62 = .ok (.iconst 2, 1) := by decide +kernel
theorem dX12_notes_63 : decode cX12_notes 63 = .ok (.iadd, 1) := by decide +kernel
theorem dX12_notes_64 : decode cX12_notes 64 = .ok (.iload_n 1, 1) := by decide +kernel
theorem dX12_notes_65 : decode cX12_notes 65 = .ok (.iastore, 1) := by decide +kernel
theorem dX12_notes_66 : decode cX12_notes 66 = .ok (.aload_n 0, 1) := by decide +kernel
theorem dX12_notes_67 : decode cX12_notes 67 = .ok (.getfield 7, 3) := by decide +kernel
theorem dX12_notes_70 : decode cX12_notes 70 = .ok (.iload 7, 2) := by decide +kernel
theorem dX12_notes_72 : decode cX12_notes 72 = .ok (.iconst 3, 1) := by decide +kernel
theorem dX12_notes_73 : decode cX12_notes 73 = .ok (.iadd, 1) := by decide +kernel
theorem dX12_notes_74 : decode cX12_notes 74 = .ok (.iload_n 2, 1) := by decide +kernel
theorem dX12_notes_75 : decode cX12_notes 75 = .ok (.iastore, 1) := by decide +kernel
theorem dX12_notes_76 : decode cX12_notes 76 = .ok (.aload_n 0, 1) := by decide +kernel
theorem dX12_notes_77 : decode cX12_notes 77 = .ok (.getfield 7, 3) := by decide +kernel
theorem dX12_notes_80 : decode cX12_notes 80 = .ok (.iload 7, 2) := by decide +kernel
theorem dX12_notes_82 : decode cX12_notes 82 = .ok (.iconst 4, 1) := by decide +kernel
theorem dX12_notes_83 : decode cX12_notes 83 = .ok (.iadd, 1) := by decide +kernel
theorem dX12_notes_84 : decode cX12_notes 84 = .ok (.iload_n 3, 1) := by decide +kernel
theorem dX12_notes_85 : decode cX12_notes 85 = .ok (.iastore, 1) := by decide +kernel
theorem dX12_notes_86 : decode cX12_notes 86 = .ok (.aload_n 0, 1) := by decide +kernel
theorem dX12_notes_87 : decode cX12_notes 87 = .ok (.getfield 7, 3) := by decide +kernel
theorem dX12_notes_90 : decode cX12_notes 90 = .ok (.iload 7, 2) := by decide +kernel
theorem dX12_notes_92 : decode cX12_notes 92 = .ok (.iconst 5, 1) := by decide +kernel
theorem dX12_notes_93 : decode cX12_notes 93 = .ok (.iadd, 1) := by decide +kernel
theorem dX12_notes_94 : decode cX12_notes 94 = .ok (.iload 4, 2) := by decide +kernel
theorem dX12_notes_96 : decode cX12_notes 96 = .ok (.iastore, 1) := by decide +kernel
theorem dX12_notes_97 : decode cX12_notes 97 = .ok (.aload_n 0, 1) := by decide +kernel
theorem dX12_notes_98 : decode cX12_notes 98 = .ok (.getfield 7, 3) := by decide +kernel
theorem dX12_notes_101 : decode cX12_notes 101 = .ok (.iload 7, 2) := by decide +kernel
theorem dX12_notes_103 : decode cX12_notes 103 = .ok (.bipush 6, 2) := by decide +kernel
theorem dX12_notes_105 : decode cX12_notes 105 = .ok (.iadd, 1) := by decide +kernel
theorem dX12_notes_106 : decode cX12_notes 106 = .ok (.iload 5, 2) := by decide +kernel
theorem dX12_notes_108 : decode cX12_notes 108 = .ok (.iastore, 1) := by decide +kernel
theorem dX12_notes_109 : decode cX12_notes 109 = .ok (.aload_n 0, 1) := by decide +kernel
theorem dX12_notes_110 : decode cX12_notes 110 = .ok (.getfield 7, 3) := by decide +kernel
theorem dX12_notes_113 : decode cX12_notes 113 = .ok (.iload 7, 2) := by decide +kernel
theorem dX12_notes_115 : decode cX12_notes 115 = .ok (.bipush 7, 2) := by decide +kernel
theorem dX12_notes_117 : decode cX12_notes 117 = .ok (.iadd, 1) := by decide +kernel
theorem dX12_notes_118 : decode cX12_notes 118 = .ok (.aload_n 0, 1) := by decide +kernel
theorem dX12_notes_119 : decode cX12_notes 119 = .ok (.getfield 341, 3) := by decide +kernel
theorem dX12_notes_122 : decode cX12_notes 122 = .ok (.iastore, 1) := by decide +kernel
theorem dX12_notes_123 : decode cX12_notes 123 = .ok (.aload_n 0, 1) := by decide +kernel
theorem dX12_notes_124 : decode cX12_notes 124 = .ok (.getfield 7, 3) := by decide +kernel
theorem dX12_notes_127 : decode cX12_notes 127 = .ok (.iload 7, 2) := by decide +kernel
theorem dX12_notes_129 : decode cX12_notes 129 = .ok (.bipush 8, 2) := by decide +kernel
theorem dX12_notes_131 : decode cX12_notes 131 = .ok (.iadd, 1) := by decide +kernel
theorem dX12_notes_132 : decode cX12_notes 132 = .ok (.iload 6, 2) := by decide +kernel
theorem dX12_notes_134 : decode cX12_notes 134 = .ok (.iastore, 1) := by decide +kernel
theorem dX12_notes_135 : decode cX12_notes 135 = .ok (.aload_n 0, 1) := by decide +kernel
theorem dX12_notes_136 : decode cX12_notes 136 = .ok (.getfield 7, 3) := by decide +kernel
theorem dX12_notes_139 : decode cX12_notes 139 = .ok (.iconst 2, 1) := by decide +kernel
theorem dX12_notes_140 : decode cX12_notes 140 = .ok (.dup2, 1) := by decide +kernel
theorem dX12_notes_141 : decode cX12_notes 141 = .ok (.iaload, 1) := by decide +kernel
theorem dX12_notes_142 : decode cX12_notes 142 = .ok (.iconst 1, 1) := by decide +kernel
theorem dX12_notes_143 : decode cX12_notes 143 = .ok (.iadd, 1) := by decide +kernel
theorem dX12_notes_144 : decode cX12_notes 144 = .ok (.iastore, 1) := by decide +kernel
theorem dX12_notes_145 : decode cX12_notes 145 = .ok (.return_, 1) := by decide +kernel
theorem dX12_throwsIt_0 : decode cX12_throwsIt 0 = .ok (.aload_n 0, 1) := by decide +kernel
theorem dX12_throwsIt_1 : decode cX12_throwsIt 1 = .ok (.getfield 7, 3) := by decide +kernel
theorem dX12_throwsIt_4 : decode cX12_throwsIt 4 = .ok (.iconst 1, 1) := by decide +kernel
theorem dX12_throwsIt_5 : decode cX12_throwsIt 5 = .ok (.iaload, 1) := by decide +kernel
theorem dX12_throwsIt_6 : decode cX12_throwsIt 6 = .ok (.istore 5, 2) := by decide +kernel
theorem dX12_throwsIt_8 : decode cX12_throwsIt 8 = .ok (.iload_n 1, 1) := by decide +kernel
theorem dX12_throwsIt_9 : decode cX12_throwsIt 9 = .ok (.iload 4, 2) := by decide +kernel
theorem dX12_throwsIt_11 : decode cX12_throwsIt 11 = .ok (.iadd, 1) := by decide +kernel
theorem dX12_throwsIt_12 : decode cX12_throwsIt 12 = .ok (.aload_n 0, 1) := by decide +kernel
theorem dX12_throwsIt_13 : decode cX12_throwsIt 13 = .ok (.iload 5, 2) := by decide +kernel
theorem dX12_throwsIt_15 : decode cX12_throwsIt 15 = .ok (.iconst 0, 1) := by decide +kernel
theorem dX12_throwsIt_16 : decode cX12_throwsIt 16 = .ok (.invokevirtual 324, 3) := by decide +kernel
theorem dX12_throwsIt_19 : decode cX12_throwsIt 19 = .ok (.invokestatic 64, 3) := by decide +kernel
theorem dX12_throwsIt_22 : decode cX12_throwsIt 22 = .ok (.istore 6, 2) := by decide +kernel
theorem dX12_throwsIt_24 : decode cX12_throwsIt 24 = .ok (.aload_n 0, 1) := by decide +kernel
theorem dX12_throwsIt_25 : decode cX12_throwsIt 25 = .ok (.iload 5, 2) := by decide +kernel
theorem dX12_throwsIt_27 : decode cX12_throwsIt 27 = .ok (.iload 6, 2) := by decide +kernel
theorem dX12_throwsIt_29 : decode cX12_throwsIt 29 = .ok (.iload 4, 2) := by decide +kernel
theorem dX12_throwsIt_31 : decode cX12_throwsIt 31 = .ok (.iload_n 2, 1) := by decide +kernel
theorem dX12_throwsIt_32 : decode cX12_throwsIt 32 = .ok (.aload_n 0, 1) := by decide +kernel
theorem dX12_throwsIt_33 : decode cX12_throwsIt 33 = .ok (.iload 5, 2) := by decide +kernel
theorem dX12_throwsIt_35 : decode cX12_throwsIt 35 = .ok (.iconst 1, 1) := by decide +kernel
theorem dX12_throwsIt_36 : decode cX12_throwsIt 36 = .ok (.invokevirtual 324, 3) := by decide +kernel
theorem dX12_throwsIt_39 : decode cX12_throwsIt 39 = .ok (.aload_n 0, 1) := by decide +kernel
theorem dX12_throwsIt_40 : decode cX12_throwsIt 40 = .ok (.iload 5, 2) := by decide +kernel
theorem dX12_throwsIt_42 : decode cX12_throwsIt 42 = .ok (.iconst 3, 1) := by decide +kernel
theorem dX12_throwsIt_43 : decode cX12_throwsIt 43 = .ok (.invokevirtual 324, 3) := by decide +kernel
theorem dX12_throwsIt_46 : decode cX12_throwsIt 46 = .ok (.invokevirtual 376, 3) := by decide +kernel
theorem dX12_throwsIt_49 : decode cX12_throwsIt 49 = .ok (.aload_n 0, 1) := by decide +kernel
theorem dX12_throwsIt_50 : decode cX12_throwsIt 50 = .ok (.invokevirtual 380, 3) := by decide +kernel
theorem dX12_throwsIt_53 : decode cX12_throwsIt 53 = .ok (.istore 7, 2) := by decide +kernel
theorem dX12_throwsIt_55 : decode cX12_throwsIt 55 = .ok (.aload_n 0, 1) := by decide +kernel
theorem dX12_throwsIt_56 : decode cX12_throwsIt 56 = .ok (.invokevirtual 383, 3) := by decide +kernel
theorem dX12_throwsIt_59 : decode cX12_throwsIt 59 = .ok (.istore 8, 2) := by decide +kernel
theorem dX12_throwsIt_61 : decode cX12_throwsIt 61 = .ok (.iload 7, 2) := by decide +kernel
theorem dX12_throwsIt_63 : decode cX12_throwsIt 63 = .ok (.ifCond .le 19, 3) := by decide +kernel
theorem dX12_throwsIt_66 : decode cX12_throwsIt 66 = .ok (.aload_n 0, 1) := by decide +kernel
theorem dX12_throwsIt_67 : decode cX12_throwsIt 67 = .ok (.sipush 1000, 3) := by decide +kernel
theorem dX12_throwsIt_70 : decode cX12_throwsIt 70 = .ok (.invokevirtual 373, 3) := by decide +kernel
theorem dX12_throwsIt_73 : decode cX12_throwsIt 73 = .ok (.iload 7, 2) := by decide +kernel
theorem dX12_throwsIt_75 : decode cX12_throwsIt 75 = .ok (.if_icmp .ge 7, 3) := by decide +kernel
theorem dX12_throwsIt_78 : decode cX12_throwsIt 78 = .ok (.iconst 1, 1) := by decide +kernel
theorem dX12_throwsIt_79 : decode cX12_throwsIt 79 = .ok (.goto 4, 3) := by decide +kernel
theorem dX12_throwsIt_82 : decode cX12_throwsIt 82 = .ok (.iconst 0, 1) := by decide +kernel
theorem dX12_throwsIt_83 : decode cX12_throwsIt 83 = .ok (.istore 9, 2) := by decide +kernel
theorem dX12_throwsIt_85 : decode cX12_throwsIt 85 = .ok (.aload_n 0, 1) := by decide +kernel
theorem dX12_throwsIt_86 : decode cX12_throwsIt 86 = .ok (.iload_n 2, 1) := by decide +kernel
theorem dX12_throwsIt_87 : decode cX12_throwsIt 87 = .ok (.aload_n 0, 1) := by decide +kernel
theorem dX12_throwsIt_88 : decode cX12_throwsIt 88 = .ok (.iconst 3, 1) := by decide +kernel
theorem dX12_throwsIt_89 : decode cX12_throwsIt 89 = .ok (.invokevirtual 364, 3) := by decide +kernel
theorem dX12_throwsIt_92 : decode cX12_throwsIt 92 = .ok (.invokevirtual 386, 3) := by decide +kernel
theorem dX12_throwsIt_95 : decode cX12_throwsIt 95 = .ok (.iconst 0, 1) := by decide +kernel
theorem dX12_throwsIt_96 : decode cX12_throwsIt 96 = .ok (.bipush 90, 2) := by decide +kernel
theorem dX12_throwsIt_98 : decode cX12_throwsIt 98 = .ok (.invokestatic 321, 3) := by decide +kernel
theorem dX12_throwsIt_101 : decode cX12_throwsIt 101 = .ok (.istore 10, 2) := by decide +kernel
theorem dX12_throwsIt_103 : decode cX12_throwsIt 103 = .ok (.aload_n 0, 1) := by decide +kernel
theorem dX12_throwsIt_104 : decode cX12_throwsIt 104 = .ok (.aload_n 0, 1) := by decide +kernel
theorem dX12_throwsIt_105 : decode cX12_throwsIt 105 = .ok (.iconst 0, 1) := by decide +kernel
theorem dX12_throwsIt_106 : decode cX12_throwsIt 106 = .ok (.invokevirtual 364, 3) := by decide +kernel
theorem dX12_throwsIt_109 : decode cX12_throwsIt 109 = .ok (.aload_n 0, 1) := by decide +kernel
theorem dX12_throwsIt_110 : decode cX12_throwsIt 110 = .ok (.iconst 2, 1) := by decide +kernel
theorem dX12_throwsIt_111 : decode cX12_throwsIt 111 = .ok (.invokevirtual 364, 3) := by decide +kernel
theorem dX12_throwsIt_114 : decode cX12_throwsIt 114 = .ok (.invokevirtual 386, 3) := by decide +kernel
theorem dX12_throwsIt_117 : decode cX12_throwsIt 117 = .ok (.istore 11, 2) := by decide +kernel
theorem dX12_throwsIt_119 : decode cX12_throwsIt 119 = .ok (.aload_n 0, 1) := by decide +kernel
theorem dX12_throwsIt_120 : decode cX12_throwsIt 120 = .ok (.iload 6, 2) := by decide +kernel
theorem dX12_throwsIt_122 : decode cX12_throwsIt 122 = .ok (.iload 10, 2) := by decide +kernel
theorem dX12_throwsIt_124 : decode cX12_throwsIt 124 = .ok (.iconst 0, 1) := by decide +kernel
theorem dX12_throwsIt_125 : decode cX12_throwsIt 125 = .ok (.iload_n 3, 1) := by decide +kernel
theorem dX12_throwsIt_126 : decode cX12_throwsIt 126 = .ok (.iload 11, 2) := by decide +kernel
theorem dX12_throwsIt_128 : decode cX12_throwsIt 128 = .ok (.aload_n 0, 1) := by decide +kernel
theorem dX12_throwsIt_129 : decode cX12_throwsIt 129 = .ok (.iconst 1, 1) := by decide +kernel
theorem dX12_throwsIt_130 : decode cX12_throwsIt 130 = .ok (.invokevirtual 364, 3) := by decide +kernel
theorem dX12_throwsIt_133 : decode cX12_throwsIt 133 = .ok (.invokevirtual 389, 3) := by decide +kernel
theorem dX12_throwsIt_136 : decode cX12_throwsIt 136 = .ok (.iload 9, 2) := by decide +kernel
theorem dX12_throwsIt_138 : decode cX12_throwsIt 138 = .ok (.ifCond .eq 7, 3) := by decide +kernel
theorem dX12_throwsIt_141 : decode cX12_throwsIt 141 = .ok (.iconst 1, 1) := by decide +kernel
theorem dX12_throwsIt_142 : decode cX12_throwsIt 142 = .ok (.goto 33, 3) := by decide +kernel
theorem dX12_throwsIt_145 : decode cX12_throwsIt 145 = .ok (.aload_n 0, 1) := by decide +kernel
theorem dX12_throwsIt_146 : decode cX12_throwsIt 146 = .ok (.invokevirtual 367, 3) := by decide +kernel
theorem dX12_throwsIt_149 : decode cX12_throwsIt 149 = .ok (.ifCond .eq 14, 3) := by decide +kernel
theorem dX12_throwsIt_152 : decode cX12_throwsIt 152 = .ok (.iconst 2, 1) := by decide +kernel
theorem dX12_throwsIt_153 : decode cX12_throwsIt 153 = .ok (.aload_n 0, 1) := by decide +kernel
theorem dX12_throwsIt_154 : decode cX12_throwsIt 154 = .ok (.invokevirtual 367, 3) := by decide +kernel
theorem dX12_throwsIt_157 : decode cX12_throwsIt 157 = .ok (.iadd, 1) := by decide +kernel
theorem dX12_throwsIt_158 : decode cX12_throwsIt 158 = .ok (.iconst 1, 1) := by decide +kernel
theorem dX12_throwsIt_159 : decode cX12_throwsIt 159 = .ok (.isub, 1) := by decide +kernel
theorem dX12_throwsIt_160 : decode cX12_throwsIt 160 = .ok (.goto 15, 3) := by decide +kernel
theorem dX12_throwsIt_163 : decode cX12_throwsIt 163 = .ok (.aload_n 0, 1) := by decide +kernel
theorem dX12_throwsIt_164 : decode cX12_throwsIt 164 = .ok (.invokevirtual 370, 3) := by decide +kernel
theorem dX12_throwsIt_167 : decode cX12_throwsIt 167 = .ok (.ifCond .eq 7, 3) := by decide +kernel
theorem dX12_throwsIt_170 : decode cX12_throwsIt 170 = .ok (.iconst 0, 1) := by decide +kernel
theorem dX12_throwsIt_171 : decode cX12_throwsIt 171 = .ok (.goto 4, 3) := by decide +kernel
theorem dX12_throwsIt_174 : decode cX12_throwsIt 174 = .ok (.iconst 4, 1) := by decide +kernel
theorem dX12_throwsIt_175 : decode cX12_throwsIt 175 = .ok (.istore 12, 2) := by decide +kernel
theorem dX12_throwsIt_177 : decode cX12_throwsIt 177 = .ok (.aload_n 0, 1) := by decide +kernel
theorem dX12_throwsIt_178 : decode cX12_throwsIt 178 = .ok (.iload 5, 2) := by decide +kernel
theorem dX12_throwsIt_180 : decode cX12_throwsIt 180 = .ok (.iconst 1, 1) := by decide +kernel
theorem dX12_throwsIt_181 : decode cX12_throwsIt 181 = .ok (.sipush 1000, 3) := by decide +kernel
theorem dX12_throwsIt_184 : decode cX12_throwsIt 184 = .ok (.aload_n 0, 1) := by decide +kernel
theorem dX12_throwsIt_185 : decode cX12_throwsIt 185 = .ok (.iload 5, 2) := by decide +kernel
theorem dX12_throwsIt_187 : decode cX12_throwsIt 187 = .ok (.iconst 1, 1) := by decide +kernel
theorem dX12_throwsIt_188 : decode cX12_throwsIt 188 = .ok (.invokevirtual 324, 3) := by decide +kernel
theorem dX12_throwsIt_191 : decode cX12_throwsIt 191 = .ok (.iload 8, 2) := by decide +kernel
theorem dX12_throwsIt_193 : decode cX12_throwsIt 193 = .ok (.iadd, 1) := by decide +kernel
theorem dX12_throwsIt_194 : decode cX12_throwsIt 194 = .ok (.invokestatic 64, 3) := by decide +kernel
theorem dX12_throwsIt_197 : decode cX12_throwsIt 197 = .ok (.invokevirtual 83, 3) := by decide +kernel
theorem dX12_throwsIt_200 : decode cX12_throwsIt 200 = .ok (.aload_n 0, 1) := by decide +kernel
theorem dX12_throwsIt_201 : decode cX12_throwsIt 201 = .ok (.iload 5, 2) := by decide +kernel
theorem dX12_throwsIt_203 : decode cX12_throwsIt 203 = .ok (.iconst 3, 1) := by decide +kernel
theorem dX12_throwsIt_204 : decode cX12_throwsIt 204 = .ok (.aload_n 0, 1) := by decide +kernel
theorem dX12_throwsIt_205 : decode cX12_throwsIt 205 = .ok (.iload 5, 2) := by decide +kernel
theorem dX12_throwsIt_207 : decode cX12_throwsIt 207 = .ok (.iconst 3, 1) := by decide +kernel
theorem dX12_throwsIt_208 : decode cX12_throwsIt 208 = .ok (.invokevirtual 324, 3) := by decide +kernel
theorem dX12_throwsIt_211 : decode cX12_throwsIt 211 = .ok (.iconst 1, 1) := by decide +kernel
theorem dX12_throwsIt_212 : decode cX12_throwsIt 212 = .ok (.iadd, 1) := by decide +kernel
theorem dX12_throwsIt_213 : decode cX12_throwsIt 213 = .ok (.invokevirtual 83, 3) := by decide +kernel
theorem dX12_throwsIt_216 : decode cX12_throwsIt 216 = .ok (.iload 12, 2) := by decide +kernel
theorem dX12_throwsIt_218 : decode cX12_throwsIt 218 = .ok (.ifCond .ne 24, 3) := by decide +kernel
theorem dX12_throwsIt_221 : decode cX12_throwsIt 221 = .ok (.aload_n 0, 1) := by decide +kernel
theorem dX12_throwsIt_222 : decode cX12_throwsIt 222 = .ok (.iload 5, 2) := by decide +kernel
theorem dX12_throwsIt_224 : decode cX12_throwsIt 224 = .ok (.iconst 2, 1) := by decide +kernel
theorem dX12_throwsIt_225 : decode cX12_throwsIt 225 = .ok (.aload_n 0, 1) := by decide +kernel
theorem dX12_throwsIt_226 : decode cX12_throwsIt 226 = .ok (.iload 5, 2) := by decide +kernel
theorem dX12_throwsIt_228 : decode cX12_throwsIt 228 = .ok (.iconst 2, 1) := by decide +kernel
theorem dX12_throwsIt_229 : decode cX12_throwsIt 229 = .ok (.invokevirtual 324, 3) := by decide +kernel
theorem dX12_throwsIt_232 : decode cX12_throwsIt 232 = .ok (.aload_n 0, 1) := by decide +kernel
theorem dX12_throwsIt_233 : decode cX12_throwsIt 233 = .ok (.getfield 341, 3) := by decide +kernel
theorem dX12_throwsIt_236 : decode cX12_throwsIt 236 = .ok (.invokestatic 68, 3) := by decide +kernel
theorem dX12_throwsIt_239 : decode cX12_throwsIt 239 = .ok (.invokevirtual 83, 3) := by decide +kernel
theorem dX12_throwsIt_242 : decode cX12_throwsIt 242 = .ok (.aload_n 0, 1) := by decide +kernel
theorem dX12_throwsIt_243 : decode cX12_throwsIt 243 = .ok (.iload 5, 2) := by decide +kernel
theorem dX12_throwsIt_245 : decode cX12_throwsIt 245 = .ok (.iload_n 3, 1) := by decide +kernel
theorem dX12_throwsIt_246 : decode cX12_throwsIt 246 = .ok (.iload 6, 2) := by decide +kernel
theorem dX12_throwsIt_248 : decode cX12_throwsIt 248 = .ok (.iload 10, 2) := by decide +kernel
theorem dX12_throwsIt_250 : decode cX12_throwsIt 250 = .ok (.iload 11, 2) := by decide +kernel
theorem dX12_throwsIt_252 : decode cX12_throwsIt 252 = .ok (.iload 12, 2) := by decide +kernel
theorem dX12_throwsIt_254 : decode cX12_throwsIt 254 = .ok (.invokevirtual 392, 3) := by decide +kernel
theorem dX12_throwsIt_257 : decode cX12_throwsIt 257 = .ok (.aload_n 0, 1) := by decide +kernel
theorem dX12_throwsIt_258 : decode cX12_throwsIt 258 = .ok (.invokevirtual 395, 3) := by decide +kernel
theorem dX12_throwsIt_261 : decode cX12_throwsIt 261 = .ok (.iload 12, 2) := by decide +kernel
theorem dX12_throwsIt_263 : decode cX12_throwsIt 263 = .ok (.ireturn, 1) := by decide +kernel
theorem dX12_isOn_0 : decode cX12_isOn 0 = .ok (.aload_n 0, 1) := by decide +kernel
theorem dX12_isOn_1 : decode cX12_isOn 1 = .ok (.getfield 7, 3) := by decide +kernel
theorem dX12_isOn_4 : decode cX12_isOn 4 = .ok (.iconst 0, 1) := by decide +kernel
theorem dX12_isOn_5 : decode cX12_isOn 5 = .ok (.iaload, 1) := by decide +kernel
theorem dX12_isOn_6 : decode cX12_isOn 6 = .ok (.bipush 6, 2) := by decide +kernel
theorem dX12_isOn_8 : decode cX12_isOn 8 = .ok (.if_icmp .ge 17, 3) := by decide +kernel
theorem dX12_isOn_11 : decode cX12_isOn 11 = .ok (.aload_n 0, 1) := by decide +kernel
theorem dX12_isOn_12 : decode cX12_isOn 12 = .ok (.getfield 7, 3) := by decide +kernel
theorem dX12_isOn_15 : decode cX12_isOn 15 = .ok (.bipush 68, 2) := by decide +kernel
theorem dX12_isOn_17 : decode cX12_isOn 17 = .ok (.iaload, 1) := by decide +kernel
theorem dX12_isOn_18 : decode cX12_isOn 18 = .ok (.ifCond .le 7, 3) := by decide +kernel
theorem dX12_isOn_21 : decode cX12_isOn 21 = .ok (.iconst 1, 1) := by decide +kernel
theorem dX12_isOn_22 : decode cX12_isOn 22 = .ok (.goto 4, 3) := by decide +kernel
theorem dX12_isOn_25 : decode cX12_isOn 25 = .ok (.iconst 0, 1) := by decide +kernel
theorem dX12_isOn_26 : decode cX12_isOn 26 = .ok (.ireturn, 1) := by decide +kernel
theorem dX12_throwIt_0 : decode cX12_throwIt 0 = .ok (.aload_n 0, 1) := by decide +kernel
theorem dX12_throwIt_1 : decode cX12_throwIt 1 = .ok (.invokevirtual 398, 3) := by decide +kernel
theorem dX12_throwIt_4 : decode cX12_throwIt 4 = .ok (.ifCond .eq 59, 3) := by decide +kernel
theorem dX12_throwIt_7 : decode cX12_throwIt 7 = .ok (.iload_n 1, 1) := by decide +kernel
theorem dX12_throwIt_8 : decode cX12_throwIt 8 = .ok (.iconst 0, 1) := by decide +kernel
theorem dX12_throwIt_9 : decode cX12_throwIt 9 = .ok (.bipush 99, 2) := by decide +kernel
theorem dX12_throwIt_11 : decode cX12_throwIt 11 = .ok (.invokestatic 71, 3) := by decide +kernel
theorem dX12_throwIt_14 : decode cX12_throwIt 14 = .ok (.ifCond .eq 49, 3) := by decide +kernel
theorem dX12_throwIt_17 : decode cX12_throwIt 17 = .ok (.iload_n 2, 1) := by decide +kernel
theorem dX12_throwIt_18 : decode cX12_throwIt 18 = .ok (.iconst 0, 1) := by decide +kernel
theorem dX12_throwIt_19 : decode cX12_throwIt 19 = .ok (.bipush 60, 2) := by decide +kernel
theorem dX12_throwIt_21 : decode cX12_throwIt 21 = .ok (.invokestatic 71, 3) := by decide +kernel
theorem dX12_throwIt_24 : decode cX12_throwIt 24 = .ok (.ifCond .eq 39, 3) := by decide +kernel
theorem dX12_throwIt_27 : decode cX12_throwIt 27 = .ok (.aload_n 0, 1) := by decide +kernel
theorem dX12_throwIt_28 : decode cX12_throwIt 28 = .ok (.iload_n 3, 1) := by decide +kernel
theorem dX12_throwIt_29 : decode cX12_throwIt 29 = .ok (.invokevirtual 401, 3) := by decide +kernel
theorem dX12_throwIt_32 : decode cX12_throwIt 32 = .ok (.ifCond .eq 31, 3) := by decide +kernel
theorem dX12_throwIt_35 : decode cX12_throwIt 35 = .ok (.iload 4, 2) := by decide +kernel
theorem dX12_throwIt_37 : decode cX12_throwIt 37 = .ok (.iconst 0, 1) := by decide +kernel
theorem dX12_throwIt_38 : decode cX12_throwIt 38 = .ok (.bipush 9, 2) := by decide +kernel
theorem dX12_throwIt_40 : decode cX12_throwIt 40 = .ok (.invokestatic 71, 3) := by decide +kernel
theorem dX12_throwIt_43 : decode cX12_throwIt 43 = .ok (.ifCond .eq 20, 3) := by decide +kernel
theorem dX12_throwIt_46 : decode cX12_throwIt 46 = .ok (.aload_n 0, 1) := by decide +kernel
theorem dX12_throwIt_47 : decode cX12_throwIt 47 = .ok (.aload_n 0, 1) := by decide +kernel
theorem dX12_throwIt_48 : decode cX12_throwIt 48 = .ok (.getfield 7, 3) := by decide +kernel
theorem dX12_throwIt_51 : decode cX12_throwIt 51 = .ok (.iconst 1, 1) := by decide +kernel
theorem dX12_throwIt_52 : decode cX12_throwIt 52 = .ok (.iaload, 1) := by decide +kernel
theorem dX12_throwIt_53 : decode cX12_throwIt 53 = .ok (.iconst 1, 1) := by decide +kernel
theorem dX12_throwIt_54 : decode cX12_throwIt 54 = .ok (.invokevirtual 324, 3) := by decide +kernel
theorem dX12_throwIt_57 : decode cX12_throwIt 57 = .ok (.sipush 1000, 3) := by decide +kernel
theorem dX12_throwIt_60 : decode cX12_throwIt 60 = .ok (.if_icmp .ne 5, 3) := by decide +kernel
theorem dX12_throwIt_63 : decode cX12_throwIt 63 = .ok (.iconst (-1), 1) := by decide +kernel
theorem dX12_throwIt_64 : decode cX12_throwIt 64 = .ok (.ireturn, 1) := by decide +kernel
theorem dX12_throwIt_65 : decode cX12_throwIt 65 = .ok (.aload_n 0, 1) := by decide +kernel
theorem dX12_throwIt_66 : decode cX12_throwIt 66 = .ok (.invokevirtual 404, 3) := by decide +kernel
theorem dX12_throwIt_69 : decode cX12_throwIt 69 = .ok (.aload_n 0, 1) := by decide +kernel
theorem dX12_throwIt_70 : decode cX12_throwIt 70 = .ok (.iload_n 1, 1) := by decide +kernel
theorem dX12_throwIt_71 : decode cX12_throwIt 71 = .ok (.iload_n 2, 1) := by decide +kernel
theorem dX12_throwIt_72 : decode cX12_throwIt 72 = .ok (.iload_n 3, 1) := by decide +kernel
theorem dX12_throwIt_73 : decode cX12_throwIt 73 = .ok (.iload 4, 2) := by decide +kernel
theorem dX12_throwIt_75 : decode cX12_throwIt 75 = .ok (.invokevirtual 407, 3) := by decide +kernel
theorem dX12_throwIt_78 : decode cX12_throwIt 78 = .ok (.ireturn, 1) := by decide +kernel
theorem dX12_pass_0 : decode cX12_pass 0 = .ok (.aload_n 0, 1) := by decide +kernel
theorem dX12_pass_1 : decode cX12_pass 1 = .ok (.invokevirtual 398, 3) := by decide +kernel
theorem dX12_pass_4 : decode cX12_pass 4 = .ok (.ifCond .ne 5, 3) := by decide +kernel
theorem dX12_pass_7 : decode cX12_pass 7 = .ok (.iconst 0, 1) := by decide +kernel
theorem dX12_pass_8 : decode cX12_pass 8 = .ok (.ireturn, 1) := by decide +kernel
theorem dX12_pass_9 : decode cX12_pass 9 = .ok (.aload_n 0, 1) := by decide +kernel
theorem dX12_pass_10 : decode cX12_pass 10 = .ok (.invokevirtual 404, 3) := by decide +kernel
theorem dX12_pass_13 : decode cX12_pass 13 = .ok (.aload_n 0, 1) := by decide +kernel
theorem dX12_pass_14 : decode cX12_pass 14 = .ok (.invokevirtual 395, 3) := by decide +kernel
theorem dX12_pass_17 : decode cX12_pass 17 = .ok (.iconst 1, 1) := by decide +kernel
theorem dX12_pass_18 : decode cX12_pass 18 = .ok (.ireturn, 1) := by decide +kernel
theorem dX12_passesBy_0 : decode cX12_passesBy 0 = .ok (.iload_n 2, 1) := by decide +kernel
theorem dX12_passesBy_1 : decode cX12_passesBy 1 = .ok (.aload_n 0, 1) := by decide +kernel
theorem dX12_passesBy_2 : decode cX12_passesBy 2 = .ok (.getfield 7, 3) := by decide +kernel
theorem dX12_passesBy_5 : decode cX12_passesBy 5 = .ok (.bipush 82, 2) := by decide +kernel
theorem dX12_passesBy_7 : decode cX12_passesBy 7 = .ok (.iload_n 1, 1) := by decide +kernel
theorem dX12_passesBy_8 : decode cX12_passesBy 8 = .ok (.iadd, 1) := by decide +kernel
theorem dX12_passesBy_9 : decode cX12_passesBy 9 = .ok (.iaload, 1) := by decide +kernel
theorem dX12_passesBy_10 : decode cX12_passesBy 10 = .ok (.if_icmp .eq 57, 3) := by decide +kernel
theorem dX12_passesBy_13 : decode cX12_passesBy 13 = .ok (.aload_n 0, 1) := by decide +kernel
theorem dX12_passesBy_14 : decode cX12_passesBy 14 = .ok (.getfield 7, 3) := by decide +kernel
theorem dX12_passesBy_17 : decode cX12_passesBy 17 = .ok (.iload_n 3, 1) := by decide +kernel
theorem dX12_passesBy_18 : decode cX12_passesBy 18 = .ok (.iaload, 1) := by decide +kernel
theorem dX12_passesBy_19 : decode cX12_passesBy 19 = .ok (.iconst (-1), 1) := by decide +kernel
theorem dX12_passesBy_20 : decode cX12_passesBy 20 = .ok (.if_icmp .eq 47, 3) := by decide +kernel
theorem dX12_passesBy_23 : decode cX12_passesBy 23 = .ok (.aload_n 0, 1) := by decide +kernel
theorem dX12_passesBy_24 : decode cX12_passesBy 24 = .ok (.iload_n 1, 1) := by decide +kernel
theorem dX12_passesBy_25 : decode cX12_passesBy 25 = .ok (.iconst 1, 1) := by decide +kernel
theorem dX12_passesBy_26 : decode cX12_passesBy 26 = .ok (.invokevirtual 324, 3) := by decide +kernel
theorem dX12_passesBy_29 : decode cX12_passesBy 29 = .ok (.sipush 1000, 3) := by decide +kernel
theorem dX12_passesBy_32 : decode cX12_passesBy 32 = .ok (.if_icmp .eq 35, 3) := by decide +kernel
theorem dX12_passesBy_35 : decode cX12_passesBy 35 = .ok (.aload_n 0, 1) := by decide +kernel
theorem dX12_passesBy_36 : decode cX12_passesBy 36 = .ok (.getfield 7, 3) := by decide +kernel
theorem dX12_passesBy_39 : decode cX12_passesBy 39 = .ok (.iload_n 3, 1) := by decide +kernel
theorem dX12_passesBy_40 : decode cX12_passesBy 40 = .ok (.iconst 4, 1) := by decide +kernel
theorem dX12_passesBy_41 : decode cX12_passesBy 41 = .ok (.iadd, 1) := by decide +kernel
theorem dX12_passesBy_42 : decode cX12_passesBy 42 = .ok (.iaload, 1) := by decide +kernel
theorem dX12_passesBy_43 : decode cX12_passesBy 43 = .ok (.iconst (-1), 1) := by decide +kernel
theorem dX12_passesBy_44 : decode cX12_passesBy 44 = .ok (.if_icmp .eq 27, 3) := by decide +kernel
theorem dX12_passesBy_47 : decode cX12_passesBy 47 = .ok (.aload_n 0, 1) := by decide +kernel
theorem dX12_passesBy_48 : decode cX12_passesBy 48 = .ok (.iload_n 1, 1) := by decide +kernel
theorem dX12_passesBy_49 : decode cX12_passesBy 49 = .ok (.iconst 2, 1) := by decide +kernel
theorem dX12_passesBy_50 : decode cX12_passesBy 50 = .ok (.invokevirtual 324, 3) := by decide +kernel
theorem dX12_passesBy_53 : decode cX12_passesBy 53 = .ok (.bipush 100, 2) := by decide +kernel
theorem dX12_passesBy_55 : decode cX12_passesBy 55 = .ok (.aload_n 0, 1) := by decide +kernel
theorem dX12_passesBy_56 : decode cX12_passesBy 56 = .ok (.getfield 7, 3) := by decide +kernel
theorem dX12_passesBy_59 : decode cX12_passesBy 59 = .ok (.iload_n 3, 1) := by decide +kernel
theorem dX12_passesBy_60 : decode cX12_passesBy 60 = .ok (.iconst 4, 1) := by decide +kernel
theorem dX12_passesBy_61 : decode cX12_passesBy 61 = .ok (.iadd, 1) := by decide +kernel
theorem dX12_passesBy_62 : decode cX12_passesBy 62 = .ok (.iaload, 1) := by decide +kernel
theorem dX12_passesBy_63 : decode cX12_passesBy 63 = .ok (.imul, 1) := by decide +kernel
theorem dX12_passesBy_64 : decode cX12_passesBy 64 = .ok (.if_icmp .lt 7, 3) := by decide +kernel
theorem dX12_passesBy_67 : decode cX12_passesBy 67 = .ok (.iconst 1, 1) := by decide +kernel
theorem dX12_passesBy_68 : decode cX12_passesBy 68 = .ok (.goto 4, 3) := by decide +kernel
theorem dX12_passesBy_71 : decode cX12_passesBy 71 = .ok (.iconst 0, 1) := by decide +kernel
theorem dX12_passesBy_72 : decode cX12_passesBy 72 = .ok (.ireturn, 1) := by decide +kernel
theorem dX12_goesOn_0 : decode cX12_goesOn 0 = .ok (.aload_n 0, 1) := by decide +kernel
theorem dX12_goesOn_1 : decode cX12_goesOn 1 = .ok (.getfield 7, 3) := by decide +kernel
theorem dX12_goesOn_4 : decode cX12_goesOn 4 = .ok (.iconst 1, 1) := by decide +kernel
theorem dX12_goesOn_5 : decode cX12_goesOn 5 = .ok (.iaload, 1) := by decide +kernel
theorem dX12_goesOn_6 : decode cX12_goesOn 6 = .ok (.istore_n 1, 1) := by decide +kernel
theorem dX12_goesOn_7 : decode cX12_goesOn 7 = .ok (.aload_n 0, 1) := by decide +kernel
theorem dX12_goesOn_8 : decode cX12_goesOn 8 = .ok (.iload_n 1, 1) := by decide +kernel
theorem dX12_goesOn_9 : decode cX12_goesOn 9 = .ok (.iconst 4, 1) := by decide +kernel
theorem dX12_goesOn_10 : decode cX12_goesOn 10 = .ok (.invokevirtual 324, 3) := by decide +kernel
theorem dX12_goesOn_13 : decode cX12_goesOn 13 = .ok (.istore_n 2, 1) := by decide +kernel
theorem dX12_goesOn_14 : decode cX12_goesOn 14 = .ok (.sipush 150, 3) := by decide +kernel
theorem dX12_goesOn_17 : decode cX12_goesOn 17 = .ok (.bipush 60, 2) := by decide +kernel
theorem dX12_goesOn_19 : decode cX12_goesOn 19 = .ok (.iload_n 1, 1) := by decide +kernel
theorem dX12_goesOn_20 : decode cX12_goesOn 20 = .ok (.imul, 1) := by decide +kernel
theorem dX12_goesOn_21 : decode cX12_goesOn 21 = .ok (.iadd, 1) := by decide +kernel
theorem dX12_goesOn_22 : decode cX12_goesOn 22 = .ok (.iconst 5, 1) := by decide +kernel
theorem dX12_goesOn_23 : decode cX12_goesOn 23 = .ok (.iload_n 2, 1) := by decide +kernel
theorem dX12_goesOn_24 : decode cX12_goesOn 24 = .ok (.imul, 1) := by decide +kernel
theorem dX12_goesOn_25 : decode cX12_goesOn 25 = .ok (.iadd, 1) := by decide +kernel
theorem dX12_goesOn_26 : decode cX12_goesOn 26 = .ok (.istore_n 3, 1) := by decide +kernel
theorem dX12_goesOn_27 : decode cX12_goesOn 27 = .ok (.iload_n 2, 1) := by decide +kernel
theorem dX12_goesOn_28 : decode cX12_goesOn 28 = .ok (.aload_n 0, 1) := by decide +kernel
theorem dX12_goesOn_29 : decode cX12_goesOn 29 = .ok (.getfield 7, 3) := by decide +kernel
theorem dX12_goesOn_32 : decode cX12_goesOn 32 = .ok (.bipush 82, 2) := by decide +kernel
theorem dX12_goesOn_34 : decode cX12_goesOn 34 = .ok (.iload_n 1, 1) := by decide +kernel
theorem dX12_goesOn_35 : decode cX12_goesOn 35 = .ok (.iadd, 1) := by decide +kernel
theorem dX12_goesOn_36 : decode cX12_goesOn 36 = .ok (.iaload, 1) := by decide +kernel
theorem dX12_goesOn_37 : decode cX12_goesOn 37 = .ok (.if_icmp .ge 12, 3) := by decide +kernel
theorem dX12_goesOn_40 : decode cX12_goesOn 40 = .ok (.aload_n 0, 1) := by decide +kernel
theorem dX12_goesOn_41 : decode cX12_goesOn 41 = .ok (.iload_n 1, 1) := by decide +kernel
theorem dX12_goesOn_42 : decode cX12_goesOn 42 = .ok (.iconst 4, 1) := by decide +kernel
theorem dX12_goesOn_43 : decode cX12_goesOn 43 = .ok (.iload_n 2, 1) := by decide +kernel
theorem dX12_goesOn_44 : decode cX12_goesOn 44 = .ok (.iconst 1, 1) := by decide +kernel
theorem dX12_goesOn_45 : decode cX12_goesOn 45 = .ok (.iadd, 1) := by decide +kernel
theorem dX12_goesOn_46 : decode cX12_goesOn 46 = .ok (.invokevirtual 83, 3) := by decide +kernel
theorem dX12_goesOn_49 : decode cX12_goesOn 49 = .ok (.aload_n 0, 1) := by decide +kernel
theorem dX12_goesOn_50 : decode cX12_goesOn 50 = .ok (.iload_n 1, 1) := by decide +kernel
theorem dX12_goesOn_51 : decode cX12_goesOn 51 = .ok (.iload_n 2, 1) := by decide +kernel
theorem dX12_goesOn_52 : decode cX12_goesOn 52 = .ok (.iload_n 3, 1) := by decide +kernel
theorem dX12_goesOn_53 : decode cX12_goesOn 53 = .ok (.invokevirtual 410, 3) := by decide +kernel
theorem dX12_goesOn_56 : decode cX12_goesOn 56 = .ok (.istore 4, 2) := by decide +kernel
theorem dX12_goesOn_58 : decode cX12_goesOn 58 = .ok (.iload 4, 2) := by decide +kernel
theorem dX12_goesOn_60 : decode cX12_goesOn 60 = .ok (.ifCond .eq 10, 3) := by decide +kernel
theorem dX12_goesOn_63 : decode cX12_goesOn 63 = .ok (.aload_n 0, 1) := by decide +kernel
theorem dX12_goesOn_64 : decode cX12_goesOn 64 = .ok (.invokevirtual 395, 3) := by decide +kernel
theorem dX12_goesOn_67 : decode cX12_goesOn 67 = .ok (.goto 38, 3) := by decide +kernel
theorem dX12_goesOn_70 : decode cX12_goesOn 70 = .ok (.aload_n 0, 1) := by decide +kernel
theorem dX12_goesOn_71 : decode cX12_goesOn 71 = .ok (.aload_n 0, 1) := by decide +kernel
theorem dX12_goesOn_72 : decode cX12_goesOn 72 = .ok (.getfield 7, 3) := by decide +kernel
theorem dX12_goesOn_75 : decode cX12_goesOn 75 = .ok (.iload_n 3, 1) := by decide +kernel
theorem dX12_goesOn_76 : decode cX12_goesOn 76 = .ok (.iaload, 1) := by decide +kernel
theorem dX12_goesOn_77 : decode cX12_goesOn 77 = .ok (.aload_n 0, 1) := by decide +kernel
theorem dX12_goesOn_78 : decode cX12_goesOn 78 = .ok (.getfield 7, 3) := by decide +kernel
theorem dX12_goesOn_81 : decode cX12_goesOn 81 = .ok (.iload_n 3, 1) := by decide +kernel
theorem dX12_goesOn_82 : decode cX12_goesOn 82 = .ok (.iconst 1, 1) := by decide +kernel
theorem dX12_goesOn_83 : decode cX12_goesOn 83 = .ok (.iadd, 1) := by decide +kernel
theorem dX12_goesOn_84 : decode cX12_goesOn 84 = .ok (.iaload, 1) := by decide +kernel
theorem dX12_goesOn_85 : decode cX12_goesOn 85 = .ok (.aload_n 0, 1) := by decide +kernel
theorem dX12_goesOn_86 : decode cX12_goesOn 86 = .ok (.getfield 7, 3) := by decide +kernel
theorem dX12_goesOn_89 : decode cX12_goesOn 89 = .ok (.iload_n 3, 1) := by decide +kernel
theorem dX12_goesOn_90 : decode cX12_goesOn 90 = .ok (.iconst 2, 1) := by decide +kernel
theorem dX12_goesOn_91 : decode cX12_goesOn 91 = .ok (.iadd, 1) := by decide +kernel
theorem dX12_goesOn_92 : decode cX12_goesOn 92 = .ok (.iaload, 1) := by decide +kernel
theorem dX12_goesOn_93 : decode cX12_goesOn 93 = .ok (.aload_n 0, 1) := by decide +kernel
theorem dX12_goesOn_94 : decode cX12_goesOn 94 = .ok (.getfield 7, 3) := by decide +kernel
theorem dX12_goesOn_97 : decode cX12_goesOn 97 = .ok (.iload_n 3, 1) := by decide +kernel
theorem dX12_goesOn_98 : decode cX12_goesOn 98 = .ok (.iconst 3, 1) := by decide +kernel
theorem dX12_goesOn_99 : decode cX12_goesOn 99 = .ok (.iadd, 1) := by decide +kernel
theorem dX12_goesOn_100 : decode cX12_goesOn 100 = .ok (.iaload, 1) := by decide +kernel
theorem dX12_goesOn_101 : decode cX12_goesOn 101 = .ok (.invokevirtual 407, 3) := by decide +kernel
theorem dX12_goesOn_104 : decode cX12_goesOn 104 = .ok (.pop, 1) := by decide +kernel
theorem dX12_goesOn_105 : decode cX12_goesOn 105 = .ok (.iload 4, 2) := by decide +kernel
theorem dX12_goesOn_107 : decode cX12_goesOn 107 = .ok (.ifCond .ne 7, 3) := by decide +kernel
theorem dX12_goesOn_110 : decode cX12_goesOn 110 = .ok (.iconst 1, 1) := by decide +kernel
theorem dX12_goesOn_111 : decode cX12_goesOn 111 = .ok (.goto 4, 3) := by decide +kernel
theorem dX12_goesOn_114 : decode cX12_goesOn 114 = .ok (.iconst 0, 1) := by decide +kernel
theorem dX12_goesOn_115 : decode cX12_goesOn 115 = .ok (.ireturn, 1) := by decide +kernel
theorem dX12_turnsGo_0 : decode cX12_turnsGo 0 = .ok (.aload_n 0, 1) := by decide +kernel
theorem dX12_turnsGo_1 : decode cX12_turnsGo 1 = .ok (.invokevirtual 398, 3) := by decide +kernel
theorem dX12_turnsGo_4 : decode cX12_turnsGo 4 = .ok (.ifCond .eq 13, 3) := by decide +kernel
theorem dX12_turnsGo_7 : decode cX12_turnsGo 7 = .ok (.iload_n 1, 1) := by decide +kernel
theorem dX12_turnsGo_8 : decode cX12_turnsGo 8 = .ok (.iconst 1, 1) := by decide +kernel
theorem dX12_turnsGo_9 : decode cX12_turnsGo 9 = .ok (.bipush 48, 2) := by decide +kernel
theorem dX12_turnsGo_11 : decode cX12_turnsGo 11 = .ok (.invokestatic 71, 3) := by decide +kernel
theorem dX12_turnsGo_14 : decode cX12_turnsGo 14 = .ok (.ifCond .ne 5, 3) := by decide +kernel
theorem dX12_turnsGo_17 : decode cX12_turnsGo 17 = .ok (.iconst (-1), 1) := by decide +kernel
theorem dX12_turnsGo_18 : decode cX12_turnsGo 18 = .ok (.ireturn, 1) := by decide +kernel
theorem dX12_turnsGo_19 : decode cX12_turnsGo 19 = .ok (.iconst 0, 1) := by decide +kernel
theorem dX12_turnsGo_20 : decode cX12_turnsGo 20 = .ok (.istore_n 2, 1) := by decide +kernel
theorem dX12_turnsGo_21 : decode cX12_turnsGo 21 = .ok (.iconst 0, 1) := by decide +kernel
theorem dX12_turnsGo_22 : decode cX12_turnsGo 22 = .ok (.istore_n 3, 1) := by decide +kernel
theorem dX12_turnsGo_23 : decode cX12_turnsGo 23 = .ok (.iload_n 3, 1) := by decide +kernel
theorem dX12_turnsGo_24 : decode cX12_turnsGo 24 = .ok (.iload_n 1, 1) := by decide +kernel
theorem dX12_turnsGo_25 : decode cX12_turnsGo 25 = .ok (.if_icmp .ge 35, 3) := by decide +kernel
theorem dX12_turnsGo_28 : decode cX12_turnsGo 28 = .ok (.aload_n 0, 1) := by decide +kernel
theorem dX12_turnsGo_29 : decode cX12_turnsGo 29 = .ok (.invokevirtual 398, 3) := by decide +kernel
theorem dX12_turnsGo_32 : decode cX12_turnsGo 32 = .ok (.ifCond .eq 28, 3) := by decide +kernel
theorem dX12_turnsGo_35 : decode cX12_turnsGo 35 = .ok (.aload_n 0, 1) := by decide +kernel
theorem dX12_turnsGo_36 : decode cX12_turnsGo 36 = .ok (.invokevirtual 404, 3) := by decide +kernel
theorem dX12_turnsGo_39 : decode cX12_turnsGo 39 = .ok (.iload_n 2, 1) := by decide +kernel
theorem dX12_turnsGo_40 : decode cX12_turnsGo 40 = .ok (.aload_n 0, 1) := by decide +kernel
theorem dX12_turnsGo_41 : decode cX12_turnsGo 41 = .ok (.invokevirtual 413, 3) := by decide +kernel
theorem dX12_turnsGo_44 : decode cX12_turnsGo 44 = .ok (.ifCond .eq 7, 3) := by decide +kernel
theorem dX12_turnsGo_47 : decode cX12_turnsGo 47 = .ok (.iconst 1, 1) := by decide +kernel
theorem dX12_turnsGo_48 : decode cX12_turnsGo 48 = .ok (.goto 4, 3) := by decide +kernel
theorem dX12_turnsGo_51 : decode cX12_turnsGo 51 = .ok (.iconst 0, 1) := by decide +kernel
theorem dX12_turnsGo_52 : decode cX12_turnsGo 52 = .ok (.iadd, 1) := by decide +kernel
theorem dX12_turnsGo_53 : decode cX12_turnsGo 53 = .ok (.istore_n 2, 1) := by decide +kernel
theorem dX12_turnsGo_54 : decode cX12_turnsGo 54 = .ok (.iinc 3 1, 3) := by decide +kernel
theorem dX12_turnsGo_57 : decode cX12_turnsGo 57 = .ok (.goto (-34), 3) := by decide +kernel
theorem dX12_turnsGo_60 : decode cX12_turnsGo 60 = .ok (.iload_n 2, 1) := by decide +kernel
theorem dX12_turnsGo_61 : decode cX12_turnsGo 61 = .ok (.ireturn, 1) := by decide +kernel
theorem dX12_meet_0 : decode cX12_meet 0 = .ok (.aload_n 0, 1) := by decide +kernel
theorem dX12_meet_1 : decode cX12_meet 1 = .ok (.getfield 7, 3) := by decide +kernel
theorem dX12_meet_4 : decode cX12_meet 4 = .ok (.iconst 0, 1) := by decide +kernel
theorem dX12_meet_5 : decode cX12_meet 5 = .ok (.iconst 0, 1) := by decide +kernel
theorem dX12_meet_6 : decode cX12_meet 6 = .ok (.iastore, 1) := by decide +kernel
theorem dX12_meet_7 : decode cX12_meet 7 = .ok (.aload_n 0, 1) := by decide +kernel
theorem dX12_meet_8 : decode cX12_meet 8 = .ok (.getfield 7, 3) := by decide +kernel
theorem dX12_meet_11 : decode cX12_meet 11 = .ok (.iconst 1, 1) := by decide +kernel
theorem dX12_meet_12 : decode cX12_meet 12 = .ok (.iconst 0, 1) := by decide +kernel
theorem dX12_meet_13 : decode cX12_meet 13 = .ok (.iastore, 1) := by decide +kernel
theorem dX12_meet_14 : decode cX12_meet 14 = .ok (.iconst 0, 1) := by decide +kernel
theorem dX12_meet_15 : decode cX12_meet 15 = .ok (.istore_n 1, 1) := by decide +kernel
theorem dX12_meet_16 : decode cX12_meet 16 = .ok (.iload_n 1, 1) := by decide +kernel
theorem dX12_meet_17 : decode cX12_meet 17 = .ok (.aload_n 0, 1) := by decide +kernel
theorem dX12_meet_18 : decode cX12_meet 18 = .ok (.getfield 7, 3) := by decide +kernel
theorem dX12_meet_21 : decode cX12_meet 21 = .ok (.bipush 68, 2) := by decide +kernel
theorem dX12_meet_23 : decode cX12_meet 23 = .ok (.iaload, 1) := by decide +kernel
theorem dX12_meet_24 : decode cX12_meet 24 = .ok (.if_icmp .ge 30, 3) := by decide +kernel
theorem dX12_meet_27 : decode cX12_meet 27 = .ok (.aload_n 0, 1) := by decide +kernel
theorem dX12_meet_28 : decode cX12_meet 28 = .ok (.iload_n 1, 1) := by decide +kernel
theorem dX12_meet_29 : decode cX12_meet 29 = .ok (.iconst 3, 1) := by decide +kernel
theorem dX12_meet_30 : decode cX12_meet 30 = .ok (.iconst 0, 1) := by decide +kernel
theorem dX12_meet_31 : decode cX12_meet 31 = .ok (.invokevirtual 83, 3) := by decide +kernel
theorem dX12_meet_34 : decode cX12_meet 34 = .ok (.aload_n 0, 1) := by decide +kernel
theorem dX12_meet_35 : decode cX12_meet 35 = .ok (.iload_n 1, 1) := by decide +kernel
theorem dX12_meet_36 : decode cX12_meet 36 = .ok (.iconst 2, 1) := by decide +kernel
theorem dX12_meet_37 : decode cX12_meet 37 = .ok (.iconst 0, 1) := by decide +kernel
theorem dX12_meet_38 : decode cX12_meet 38 = .ok (.invokevirtual 83, 3) := by decide +kernel
theorem dX12_meet_41 : decode cX12_meet 41 = .ok (.aload_n 0, 1) := by decide +kernel
theorem dX12_meet_42 : decode cX12_meet 42 = .ok (.iload_n 1, 1) := by decide +kernel
theorem dX12_meet_43 : decode cX12_meet 43 = .ok (.iconst 4, 1) := by decide +kernel
theorem dX12_meet_44 : decode cX12_meet 44 = .ok (.iconst 0, 1) := by decide +kernel
theorem dX12_meet_45 : decode cX12_meet 45 = .ok (.invokevirtual 83, 3) := by decide +kernel
theorem dX12_meet_48 : decode cX12_meet 48 = .ok (.iinc 1 1, 3) := by decide +kernel
theorem dX12_meet_51 : decode cX12_meet 51 = .ok (.goto (-35), 3) := by decide +kernel
theorem dX12_meet_54 : decode cX12_meet 54 = .ok (.aload_n 0, 1) := by decide +kernel
theorem dX12_meet_55 : decode cX12_meet 55 = .ok (.invokevirtual 78, 3) := by decide +kernel
theorem dX12_meet_58 : decode cX12_meet 58 = .ok (.return_, 1) := by decide +kernel
theorem dX12_days_0 : decode cX12_days 0 = .ok (.iload_n 1, 1) := by decide +kernel
theorem dX12_days_1 : decode cX12_days 1 = .ok (.iconst 1, 1) := by decide +kernel
theorem dX12_days_2 : decode cX12_days 2 = .ok (.bipush 100, 2) := by decide +kernel
theorem dX12_days_4 : decode cX12_days 4 = .ok (.invokestatic 71, 3) := by decide +kernel
theorem dX12_days_7 : decode cX12_days 7 = .ok (.ifCond .eq 18, 3) := by decide +kernel
theorem dX12_days_10 : decode cX12_days 10 = .ok (.aload_n 0, 1) := by decide +kernel
theorem dX12_days_11 : decode cX12_days 11 = .ok (.getfield 7, 3) := by decide +kernel
theorem dX12_days_14 : decode cX12_days 14 = .ok (.bipush 66, 2) := by decide +kernel
theorem dX12_days_16 : decode cX12_days 16 = .ok (.iaload, 1) := by decide +kernel
theorem dX12_days_17 : decode cX12_days 17 = .ok (.iload_n 1, 1) := by decide +kernel
theorem dX12_days_18 : decode cX12_days 18 = .ok (.iadd, 1) := by decide +kernel
theorem dX12_days_19 : decode cX12_days 19 = .ok (.sipush 9999, 3) := by decide +kernel
theorem dX12_days_22 : decode cX12_days 22 = .ok (.if_icmp .le 5, 3) := by decide +kernel
theorem dX12_days_25 : decode cX12_days 25 = .ok (.iconst 0, 1) := by decide +kernel
theorem dX12_days_26 : decode cX12_days 26 = .ok (.ireturn, 1) := by decide +kernel
theorem dX12_days_27 : decode cX12_days 27 = .ok (.iconst 0, 1) := by decide +kernel
theorem dX12_days_28 : decode cX12_days 28 = .ok (.istore_n 2, 1) := by decide +kernel
theorem dX12_days_29 : decode cX12_days 29 = .ok (.iload_n 2, 1) := by decide +kernel
theorem dX12_days_30 : decode cX12_days 30 = .ok (.iload_n 1, 1) := by decide +kernel
theorem dX12_days_31 : decode cX12_days 31 = .ok (.if_icmp .ge 87, 3) := by decide +kernel
theorem dX12_days_34 : decode cX12_days 34 = .ok (.iconst 0, 1) := by decide +kernel
theorem dX12_days_35 : decode cX12_days 35 = .ok (.istore_n 3, 1) := by decide +kernel
theorem dX12_days_36 : decode cX12_days 36 = .ok (.iload_n 3, 1) := by decide +kernel
theorem dX12_days_37 : decode cX12_days 37 = .ok (.aload_n 0, 1) := by decide +kernel
theorem dX12_days_38 : decode cX12_days 38 = .ok (.getfield 7, 3) := by decide +kernel
theorem dX12_days_41 : decode cX12_days 41 = .ok (.bipush 68, 2) := by decide +kernel
theorem dX12_days_43 : decode cX12_days 43 = .ok (.iaload, 1) := by decide +kernel
theorem dX12_days_44 : decode cX12_days 44 = .ok (.if_icmp .ge 57, 3) := by decide +kernel
theorem dX12_days_47 : decode cX12_days 47 = .ok (.aload_n 0, 1) := by decide +kernel
theorem dX12_days_48 : decode cX12_days 48 = .ok (.iload_n 3, 1) := by decide +kernel
theorem dX12_days_49 : decode cX12_days 49 = .ok (.iconst 0, 1) := by decide +kernel
theorem dX12_days_50 : decode cX12_days 50 = .ok (.iconst 0, 1) := by decide +kernel
theorem dX12_days_51 : decode cX12_days 51 = .ok (.iconst 0, 1) := by decide +kernel
theorem dX12_days_52 : decode cX12_days 52 = .ok (.aload_n 0, 1) := by decide +kernel
theorem dX12_days_53 : decode cX12_days 53 = .ok (.iload_n 3, 1) := by decide +kernel
theorem dX12_days_54 : decode cX12_days 54 = .ok (.iconst 1, 1) := by decide +kernel
theorem dX12_days_55 : decode cX12_days 55 = .ok (.invokevirtual 324, 3) := by decide +kernel
theorem dX12_days_58 : decode cX12_days 58 = .ok (.aload_n 0, 1) := by decide +kernel
theorem dX12_days_59 : decode cX12_days 59 = .ok (.iload_n 3, 1) := by decide +kernel
theorem dX12_days_60 : decode cX12_days 60 = .ok (.iconst 3, 1) := by decide +kernel
theorem dX12_days_61 : decode cX12_days 61 = .ok (.invokevirtual 324, 3) := by decide +kernel
theorem dX12_days_64 : decode cX12_days 64 = .ok (.invokevirtual 376, 3) := by decide +kernel
theorem dX12_days_67 : decode cX12_days 67 = .ok (.aload_n 0, 1) := by decide +kernel
theorem dX12_days_68 : decode cX12_days 68 = .ok (.iload_n 3, 1) := by decide +kernel
theorem dX12_days_69 : decode cX12_days 69 = .ok (.iconst 1, 1) := by decide +kernel
theorem dX12_days_70 : decode cX12_days 70 = .ok (.iconst 0, 1) := by decide +kernel
theorem dX12_days_71 : decode cX12_days 71 = .ok (.aload_n 0, 1) := by decide +kernel
theorem dX12_days_72 : decode cX12_days 72 = .ok (.iload_n 3, 1) := by decide +kernel
theorem dX12_days_73 : decode cX12_days 73 = .ok (.iconst 1, 1) := by decide +kernel
theorem dX12_days_74 : decode cX12_days 74 = .ok (.invokevirtual 324, 3) := by decide +kernel
theorem dX12_days_77 : decode cX12_days 77 = .ok (.aload_n 0, 1) := by decide +kernel
theorem dX12_days_78 : decode cX12_days 78 = .ok (.iconst 1, 1) := by decide +kernel
theorem dX12_days_79 : decode cX12_days 79 = .ok (.bipush 26, 2) := by decide +kernel
theorem dX12_days_81 : decode cX12_days 81 = .ok (.iconst 0, 1) := by decide +kernel
theorem dX12_days_82 : decode cX12_days 82 = .ok (.sipush 1000, 3) := by decide +kernel
theorem dX12_days_85 : decode cX12_days 85 = .ok (.invokevirtual 327, 3) := by decide +kernel
theorem dX12_days_88 : decode cX12_days 88 = .ok (.isub, 1) := by decide +kernel
theorem dX12_days_89 : decode cX12_days 89 = .ok (.invokestatic 68, 3) := by decide +kernel
theorem dX12_days_92 : decode cX12_days 92 = .ok (.invokevirtual 83, 3) := by decide +kernel
theorem dX12_days_95 : decode cX12_days 95 = .ok (.iinc 3 1, 3) := by decide +kernel
theorem dX12_days_98 : decode cX12_days 98 = .ok (.goto (-62), 3) := by decide +kernel
theorem dX12_days_101 : decode cX12_days 101 = .ok (.aload_n 0, 1) := by decide +kernel
theorem dX12_days_102 : decode cX12_days 102 = .ok (.getfield 7, 3) := by decide +kernel
theorem dX12_days_105 : decode cX12_days 105 = .ok (.bipush 66, 2) := by decide +kernel
theorem dX12_days_107 : decode cX12_days 107 = .ok (.dup2, 1) := by decide +kernel
theorem dX12_days_108 : decode cX12_days 108 = .ok (.iaload, 1) := by decide +kernel
theorem dX12_days_109 : decode cX12_days 109 = .ok (.iconst 1, 1) := by decide +kernel
theorem dX12_days_110 : decode cX12_days 110 = .ok (.iadd, 1) := by decide +kernel
theorem dX12_days_111 : decode cX12_days 111 = .ok (.iastore, 1) := by decide +kernel
theorem dX12_days_112 : decode cX12_days 112 = .ok (.iinc 2 1, 3) := by decide +kernel
theorem dX12_days_115 : decode cX12_days 115 = .ok (.goto (-86), 3) := by decide +kernel
theorem dX12_days_118 : decode cX12_days 118 = .ok (.aload_n 0, 1) := by decide +kernel
theorem dX12_days_119 : decode cX12_days 119 = .ok (.invokevirtual 78, 3) := by decide +kernel
theorem dX12_days_122 : decode cX12_days 122 = .ok (.iconst 1, 1) := by decide +kernel
theorem dX12_days_123 : decode cX12_days 123 = .ok (.ireturn, 1) := by decide +kernel
theorem dX12_rank_0 : decode cX12_rank 0 = .ok (.iconst 1, 1) := by decide +kernel
theorem dX12_rank_1 : decode cX12_rank 1 = .ok (.istore_n 2, 1) := by decide +kernel
theorem dX12_rank_2 : decode cX12_rank 2 = .ok (.iconst 0, 1) := by decide +kernel
theorem dX12_rank_3 : decode cX12_rank 3 = .ok (.istore_n 3, 1) := by decide +kernel
theorem dX12_rank_4 : decode cX12_rank 4 = .ok (.iload_n 3, 1) := by decide +kernel
theorem dX12_rank_5 : decode cX12_rank 5 = .ok (.aload_n 0, 1) := by decide +kernel
theorem dX12_rank_6 : decode cX12_rank 6 = .ok (.getfield 7, 3) := by decide +kernel
theorem dX12_rank_9 : decode cX12_rank 9 = .ok (.bipush 68, 2) := by decide +kernel
theorem dX12_rank_11 : decode cX12_rank 11 = .ok (.iaload, 1) := by decide +kernel
theorem dX12_rank_12 : decode cX12_rank 12 = .ok (.if_icmp .ge 32, 3) := by decide +kernel
theorem dX12_rank_15 : decode cX12_rank 15 = .ok (.iload_n 2, 1) := by decide +kernel
theorem dX12_rank_16 : decode cX12_rank 16 = .ok (.aload_n 0, 1) := by decide +kernel
theorem dX12_rank_17 : decode cX12_rank 17 = .ok (.iload_n 3, 1) := by decide +kernel
theorem dX12_rank_18 : decode cX12_rank 18 = .ok (.iconst 2, 1) := by decide +kernel
theorem dX12_rank_19 : decode cX12_rank 19 = .ok (.invokevirtual 324, 3) := by decide +kernel
theorem dX12_rank_22 : decode cX12_rank 22 = .ok (.aload_n 0, 1) := by decide +kernel
theorem dX12_rank_23 : decode cX12_rank 23 = .ok (.iload_n 1, 1) := by decide +kernel
theorem dX12_rank_24 : decode cX12_rank 24 = .ok (.iconst 2, 1) := by decide +kernel
theorem dX12_rank_25 : decode cX12_rank 25 = .ok (.invokevirtual 324, 3) := by decide +kernel
theorem dX12_rank_28 : decode cX12_rank 28 = .ok (.if_icmp .le 7, 3) := by decide +kernel
theorem dX12_rank_31 : decode cX12_rank 31 = .ok (.iconst 1, 1) := by decide +kernel
theorem dX12_rank_32 : decode cX12_rank 32 = .ok (.goto 4, 3) := by decide +kernel
theorem dX12_rank_35 : decode cX12_rank 35 = .ok (.iconst 0, 1) := by decide +kernel
theorem dX12_rank_36 : decode cX12_rank 36 = .ok (.iadd, 1) := by decide +kernel
theorem dX12_rank_37 : decode cX12_rank 37 = .ok (.istore_n 2, 1) := by decide +kernel
theorem dX12_rank_38 : decode cX12_rank 38 = .ok (.iinc 3 1, 3) := by decide +kernel
theorem dX12_rank_41 : decode cX12_rank 41 = .ok (.goto (-37), 3) := by decide +kernel
theorem dX12_rank_44 : decode cX12_rank 44 = .ok (.iload_n 2, 1) := by decide +kernel
theorem dX12_rank_45 : decode cX12_rank 45 = .ok (.ireturn, 1) := by decide +kernel
theorem dX12_needs_0 : decode cX12_needs 0 = .ok (.iconst (-1), 1) := by decide +kernel
theorem dX12_needs_1 : decode cX12_needs 1 = .ok (.istore_n 2, 1) := by decide +kernel
theorem dX12_needs_2 : decode cX12_needs 2 = .ok (.iconst 0, 1) := by decide +kernel
theorem dX12_needs_3 : decode cX12_needs 3 = .ok (.istore_n 3, 1) := by decide +kernel
theorem dX12_needs_4 : decode cX12_needs 4 = .ok (.iload_n 3, 1) := by decide +kernel
theorem dX12_needs_5 : decode cX12_needs 5 = .ok (.aload_n 0, 1) := by decide +kernel
theorem dX12_needs_6 : decode cX12_needs 6 = .ok (.getfield 7, 3) := by decide +kernel
theorem dX12_needs_9 : decode cX12_needs 9 = .ok (.bipush 68, 2) := by decide +kernel
theorem dX12_needs_11 : decode cX12_needs 11 = .ok (.iaload, 1) := by decide +kernel
theorem dX12_needs_12 : decode cX12_needs 12 = .ok (.if_icmp .ge 25, 3) := by decide +kernel
theorem dX12_needs_15 : decode cX12_needs 15 = .ok (.iload_n 3, 1) := by decide +kernel
theorem dX12_needs_16 : decode cX12_needs 16 = .ok (.iload_n 1, 1) := by decide +kernel
theorem dX12_needs_17 : decode cX12_needs 17 = .ok (.if_icmp .eq 14, 3) := by decide +kernel
theorem dX12_needs_20 : decode cX12_needs 20 = .ok (.iload_n 2, 1) := by decide +kernel
theorem dX12_needs_21 : decode cX12_needs 21 = .ok (.aload_n 0, 1) := by decide +kernel
theorem dX12_needs_22 : decode cX12_needs 22 = .ok (.iload_n 3, 1) := by decide +kernel
theorem dX12_needs_23 : decode cX12_needs 23 = .ok (.iconst 2, 1) := by decide +kernel
theorem dX12_needs_24 : decode cX12_needs 24 = .ok (.invokevirtual 324, 3) := by decide +kernel
theorem dX12_needs_27 : decode cX12_needs 27 = .ok (.invokestatic 68, 3) := by decide +kernel
theorem dX12_needs_30 : decode cX12_needs 30 = .ok (.istore_n 2, 1) := by decide +kernel
theorem dX12_needs_31 : decode cX12_needs 31 = .ok (.iinc 3 1, 3) := by decide +kernel
theorem dX12_needs_34 : decode cX12_needs 34 = .ok (.goto (-30), 3) := by decide +kernel
theorem dX12_needs_37 : decode cX12_needs 37 = .ok (.iconst 0, 1) := by decide +kernel
theorem dX12_needs_38 : decode cX12_needs 38 = .ok (.iload_n 2, 1) := by decide +kernel
theorem dX12_needs_39 : decode cX12_needs 39 = .ok (.iconst 1, 1) := by decide +kernel
theorem dX12_needs_40 : decode cX12_needs 40 = .ok (.iadd, 1) := by decide +kernel
theorem dX12_needs_41 : decode cX12_needs 41 = .ok (.aload_n 0, 1) := by decide +kernel
theorem dX12_needs_42 : decode cX12_needs 42 = .ok (.iload_n 1, 1) := by decide +kernel
theorem dX12_needs_43 : decode cX12_needs 43 = .ok (.iconst 2, 1) := by decide +kernel
theorem dX12_needs_44 : decode cX12_needs 44 = .ok (.invokevirtual 324, 3) := by decide +kernel
theorem dX12_needs_47 : decode cX12_needs 47 = .ok (.isub, 1) := by decide +kernel
theorem dX12_needs_48 : decode cX12_needs 48 = .ok (.invokestatic 68, 3) := by decide +kernel
theorem dX12_needs_51 : decode cX12_needs 51 = .ok (.ireturn, 1) := by decide +kernel
theorem dX12_ruled_0 : decode cX12_ruled 0 = .ok (.iconst 0, 1) := by decide +kernel
theorem dX12_ruled_1 : decode cX12_ruled 1 = .ok (.istore_n 2, 1) := by decide +kernel
theorem dX12_ruled_2 : decode cX12_ruled 2 = .ok (.iconst 0, 1) := by decide +kernel
theorem dX12_ruled_3 : decode cX12_ruled 3 = .ok (.istore_n 3, 1) := by decide +kernel
theorem dX12_ruled_4 : decode cX12_ruled 4 = .ok (.iload_n 3, 1) := by decide +kernel
theorem dX12_ruled_5 : decode cX12_ruled 5 = .ok (.aload_n 0, 1) := by decide +kernel
theorem dX12_ruled_6 : decode cX12_ruled 6 = .ok (.getfield 7, 3) := by decide +kernel
theorem dX12_ruled_9 : decode cX12_ruled 9 = .ok (.iconst 2, 1) := by decide +kernel
theorem dX12_ruled_10 : decode cX12_ruled 10 = .ok (.iaload, 1) := by decide +kernel
theorem dX12_ruled_11 : decode cX12_ruled 11 = .ok (.if_icmp .ge 91, 3) := by decide +kernel
theorem dX12_ruled_14 : decode cX12_ruled 14 = .ok (.sipush 3296, 3) := by decide +kernel
theorem dX12_ruled_17 : decode cX12_ruled 17 = .ok (.bipush 10, 2) := by decide +kernel
theorem dX12_ruled_19 : decode cX12_ruled 19 = .ok (.iload_n 3, 1) := by decide +kernel
theorem dX12_ruled_20 : decode cX12_ruled 20 = .ok (.imul, 1) := by decide +kernel
theorem dX12_ruled_21 : decode cX12_ruled 21 = .ok (.iadd, 1) := by decide +kernel
theorem dX12_ruled_22 : decode cX12_ruled 22 = .ok (.istore 4, 2) := by decide +kernel
theorem dX12_ruled_24 : decode cX12_ruled 24 = .ok (.aload_n 0, 1) := by decide +kernel
theorem dX12_ruled_25 : decode cX12_ruled 25 = .ok (.getfield 7, 3) := by decide +kernel
theorem dX12_ruled_28 : decode cX12_ruled 28 = .ok (.iload 4, 2) := by decide +kernel
theorem dX12_ruled_30 : decode cX12_ruled 30 = .ok (.iaload, 1) := by decide +kernel
theorem dX12_ruled_31 : decode cX12_ruled 31 = .ok (.aload_n 0, 1) := by decide +kernel
theorem dX12_ruled_32 : decode cX12_ruled 32 = .ok (.getfield 7, 3) := by decide +kernel
theorem dX12_ruled_35 : decode cX12_ruled 35 = .ok (.bipush 66, 2) := by decide +kernel
theorem dX12_ruled_37 : decode cX12_ruled 37 = .ok (.iaload, 1) := by decide +kernel
theorem dX12_ruled_38 : decode cX12_ruled 38 = .ok (.if_icmp .ne 58, 3) := by decide +kernel
theorem dX12_ruled_41 : decode cX12_ruled 41 = .ok (.aload_n 0, 1) := by decide +kernel
theorem dX12_ruled_42 : decode cX12_ruled 42 = .ok (.getfield 7, 3) := by decide +kernel
theorem dX12_ruled_45 : decode cX12_ruled 45 = .ok (.iload 4, 2) := by decide +kernel
theorem dX12_ruled_47 : decode cX12_ruled 47 = .ok (.iconst 2, 1) := by decide +kernel
theorem dX12_ruled_48 : decode cX12_ruled 48 = .ok (.iadd, 1) := by decide +kernel
theorem dX12_ruled_49 : decode cX12_ruled 49 = .ok (.iaload, 1) := by decide +kernel
theorem dX12_ruled_50 : decode cX12_ruled 50 = .ok (.iload_n 1, 1) := by decide +kernel
theorem dX12_ruled_51 : decode cX12_ruled 51 = .ok (.if_icmp .ne 45, 3) := by decide +kernel
theorem dX12_ruled_54 : decode cX12_ruled 54 = .ok (.aload_n 0, 1) := by decide +kernel
theorem dX12_ruled_55 : decode cX12_ruled 55 = .ok (.getfield 7, 3) := by decide +kernel
theorem dX12_ruled_58 : decode cX12_ruled 58 = .ok (.iload 4, 2) := by decide +kernel
theorem dX12_ruled_60 : decode cX12_ruled 60 = .ok (.bipush 8, 2) := by decide +kernel
theorem dX12_ruled_62 : decode cX12_ruled 62 = .ok (.iadd, 1) := by decide +kernel
theorem dX12_ruled_63 : decode cX12_ruled 63 = .ok (.iaload, 1) := by decide +kernel
theorem dX12_ruled_64 : decode cX12_ruled 64 = .ok (.ifCond .eq 17, 3) := by decide +kernel
theorem dX12_ruled_67 : decode cX12_ruled 67 = .ok (.aload_n 0, 1) := by decide +kernel
theorem dX12_ruled_68 : decode cX12_ruled 68 = .ok (.getfield 7, 3) := by decide +kernel
theorem dX12_ruled_71 : decode cX12_ruled 71 = .ok (.iload 4, 2) := by decide +kernel
theorem dX12_ruled_73 : decode cX12_ruled 73 = .ok (.bipush 8, 2) := by decide +kernel
theorem dX12_ruled_75 : decode cX12_ruled 75 = .ok (.iadd, 1) := by decide +kernel
theorem dX12_ruled_76 : decode cX12_ruled 76 = .ok (.iaload, 1) := by decide +kernel
theorem dX12_ruled_77 : decode cX12_ruled 77 = .ok (.iconst 2, 1) := by decide +kernel
theorem dX12_ruled_78 : decode cX12_ruled 78 = .ok (.if_icmp .ne 18, 3) := by decide +kernel
theorem dX12_ruled_81 : decode cX12_ruled 81 = .ok (.iload_n 2, 1) := by decide +kernel
theorem dX12_ruled_82 : decode cX12_ruled 82 = .ok (.aload_n 0, 1) := by decide +kernel
theorem dX12_ruled_83 : decode cX12_ruled 83 = .ok (.getfield 7, 3) := by decide +kernel
theorem dX12_ruled_86 : decode cX12_ruled 86 = .ok (.iload 4, 2) := by decide +kernel
theorem dX12_ruled_88 : decode cX12_ruled 88 = .ok (.bipush 7, 2) := by decide +kernel
theorem dX12_ruled_90 : decode cX12_ruled 90 = .ok (.iadd, 1) := by decide +kernel
theorem dX12_ruled_91 : decode cX12_ruled 91 = .ok (.iaload, 1) := by decide +kernel
theorem dX12_ruled_92 : decode cX12_ruled 92 = .ok (.invokestatic 68, 3) := by decide +kernel
theorem dX12_ruled_95 : decode cX12_ruled 95 = .ok (.istore_n 2, 1) := by decide +kernel
theorem dX12_ruled_96 : decode cX12_ruled 96 = .ok (.iinc 3 1, 3) := by decide +kernel
theorem dX12_ruled_99 : decode cX12_ruled 99 = .ok (.goto (-95), 3) := by decide +kernel
theorem dX12_ruled_102 : decode cX12_ruled 102 = .ok (.iload_n 2, 1) := by decide +kernel
theorem dX12_ruled_103 : decode cX12_ruled 103 = .ok (.ireturn, 1) := by decide +kernel
theorem dX12_of_0 : decode cX12_of 0 = .ok (.aload_n 0, 1) := by decide +kernel
theorem dX12_of_1 : decode cX12_of 1 = .ok (.iload_n 1, 1) := by decide +kernel
theorem dX12_of_2 : decode cX12_of 2 = .ok (.invokevirtual 87, 3) := by decide +kernel
theorem dX12_of_5 : decode cX12_of 5 = .ok (.ifCond .ne 5, 3) := by decide +kernel
theorem dX12_of_8 : decode cX12_of 8 = .ok (.iconst (-1), 1) := by decide +kernel
theorem dX12_of_9 : decode cX12_of 9 = .ok (.ireturn, 1) := by decide +kernel
theorem dX12_of_10 : decode cX12_of 10 = .ok (.iload_n 2, 1) := by decide +kernel
theorem dX12_of_11 : decode cX12_of 11 = .ok (.tableswitch 108 0 7 #[45, 52, 59, 66, 73, 79, 85, 102], 45) := by decide +kernel
theorem dX12_of_56 : decode cX12_of 56 = .ok (.aload_n 0, 1) := by decide +kernel
theorem dX12_of_57 : decode cX12_of 57 = .ok (.iload_n 1, 1) := by decide +kernel
theorem dX12_of_58 : decode cX12_of 58 = .ok (.iconst 0, 1) := by decide +kernel
theorem dX12_of_59 : decode cX12_of 59 = .ok (.invokevirtual 324, 3) := by decide +kernel
theorem dX12_of_62 : decode cX12_of 62 = .ok (.ireturn, 1) := by decide +kernel
theorem dX12_of_63 : decode cX12_of 63 = .ok (.aload_n 0, 1) := by decide +kernel
theorem dX12_of_64 : decode cX12_of 64 = .ok (.iload_n 1, 1) := by decide +kernel
theorem dX12_of_65 : decode cX12_of 65 = .ok (.iconst 1, 1) := by decide +kernel
theorem dX12_of_66 : decode cX12_of 66 = .ok (.invokevirtual 324, 3) := by decide +kernel
theorem dX12_of_69 : decode cX12_of 69 = .ok (.ireturn, 1) := by decide +kernel
theorem dX12_of_70 : decode cX12_of 70 = .ok (.aload_n 0, 1) := by decide +kernel
theorem dX12_of_71 : decode cX12_of 71 = .ok (.iload_n 1, 1) := by decide +kernel
theorem dX12_of_72 : decode cX12_of 72 = .ok (.iconst 2, 1) := by decide +kernel
theorem dX12_of_73 : decode cX12_of 73 = .ok (.invokevirtual 324, 3) := by decide +kernel
theorem dX12_of_76 : decode cX12_of 76 = .ok (.ireturn, 1) := by decide +kernel
theorem dX12_of_77 : decode cX12_of 77 = .ok (.aload_n 0, 1) := by decide +kernel
theorem dX12_of_78 : decode cX12_of 78 = .ok (.iload_n 1, 1) := by decide +kernel
theorem dX12_of_79 : decode cX12_of 79 = .ok (.iconst 3, 1) := by decide +kernel
theorem dX12_of_80 : decode cX12_of 80 = .ok (.invokevirtual 324, 3) := by decide +kernel
theorem dX12_of_83 : decode cX12_of 83 = .ok (.ireturn, 1) := by decide +kernel
theorem dX12_of_84 : decode cX12_of 84 = .ok (.aload_n 0, 1) := by decide +kernel
theorem dX12_of_85 : decode cX12_of 85 = .ok (.iload_n 1, 1) := by decide +kernel
theorem dX12_of_86 : decode cX12_of 86 = .ok (.invokevirtual 416, 3) := by decide +kernel
theorem dX12_of_89 : decode cX12_of 89 = .ok (.ireturn, 1) := by decide +kernel
theorem dX12_of_90 : decode cX12_of 90 = .ok (.aload_n 0, 1) := by decide +kernel
theorem dX12_of_91 : decode cX12_of 91 = .ok (.iload_n 1, 1) := by decide +kernel
theorem dX12_of_92 : decode cX12_of 92 = .ok (.invokevirtual 419, 3) := by decide +kernel
theorem dX12_of_95 : decode cX12_of 95 = .ok (.ireturn, 1) := by decide +kernel
theorem dX12_of_96 : decode cX12_of 96 = .ok (.aload_n 0, 1) := by decide +kernel
theorem dX12_of_97 : decode cX12_of 97 = .ok (.getfield 7, 3) := by decide +kernel
theorem dX12_of_100 : decode cX12_of 100 = .ok (.bipush 82, 2) := by decide +kernel
theorem dX12_of_102 : decode cX12_of 102 = .ok (.iload_n 1, 1) := by decide +kernel
theorem dX12_of_103 : decode cX12_of 103 = .ok (.iadd, 1) := by decide +kernel
theorem dX12_of_104 : decode cX12_of 104 = .ok (.iaload, 1) := by decide +kernel
theorem dX12_of_105 : decode cX12_of 105 = .ok (.aload_n 0, 1) := by decide +kernel
theorem dX12_of_106 : decode cX12_of 106 = .ok (.iload_n 1, 1) := by decide +kernel
theorem dX12_of_107 : decode cX12_of 107 = .ok (.iconst 4, 1) := by decide +kernel
theorem dX12_of_108 : decode cX12_of 108 = .ok (.invokevirtual 324, 3) := by decide +kernel
theorem dX12_of_111 : decode cX12_of 111 = .ok (.isub, 1) := by decide +kernel
theorem dX12_of_112 : decode cX12_of 112 = .ok (.ireturn, 1) := by decide +kernel
theorem dX12_of_113 : decode cX12_of 113 = .ok (.aload_n 0, 1) := by decide +kernel
theorem dX12_of_114 : decode cX12_of 114 = .ok (.iload_n 1, 1) := by decide +kernel
theorem dX12_of_115 : decode cX12_of 115 = .ok (.invokevirtual 422, 3) := by decide +kernel
theorem dX12_of_118 : decode cX12_of 118 = .ok (.ireturn, 1) := by decide +kernel
theorem dX12_of_119 : decode cX12_of 119 = .ok (.iconst (-1), 1) := by decide +kernel
theorem dX12_of_120 : decode cX12_of 120 = .ok (.ireturn, 1) := by decide +kernel
theorem dX12_at_0 : decode cX12_at 0 = .ok (.aload_n 0, 1) := by decide +kernel
theorem dX12_at_1 : decode cX12_at 1 = .ok (.iload_n 1, 1) := by decide +kernel
theorem dX12_at_2 : decode cX12_at 2 = .ok (.invokevirtual 401, 3) := by decide +kernel
theorem dX12_at_5 : decode cX12_at 5 = .ok (.ifCond .eq 28, 3) := by decide +kernel
theorem dX12_at_8 : decode cX12_at 8 = .ok (.iload_n 2, 1) := by decide +kernel
theorem dX12_at_9 : decode cX12_at 9 = .ok (.iconst 0, 1) := by decide +kernel
theorem dX12_at_10 : decode cX12_at 10 = .ok (.iconst 1, 1) := by decide +kernel
theorem dX12_at_11 : decode cX12_at 11 = .ok (.invokestatic 71, 3) := by decide +kernel
theorem dX12_at_14 : decode cX12_at 14 = .ok (.ifCond .eq 19, 3) := by decide +kernel
theorem dX12_at_17 : decode cX12_at 17 = .ok (.aload_n 0, 1) := by decide +kernel
theorem dX12_at_18 : decode cX12_at 18 = .ok (.getfield 7, 3) := by decide +kernel
theorem dX12_at_21 : decode cX12_at 21 = .ok (.bipush 70, 2) := by decide +kernel
theorem dX12_at_23 : decode cX12_at 23 = .ok (.iconst 2, 1) := by decide +kernel
theorem dX12_at_24 : decode cX12_at 24 = .ok (.iload_n 1, 1) := by decide +kernel
theorem dX12_at_25 : decode cX12_at 25 = .ok (.imul, 1) := by decide +kernel
theorem dX12_at_26 : decode cX12_at 26 = .ok (.iadd, 1) := by decide +kernel
theorem dX12_at_27 : decode cX12_at 27 = .ok (.iload_n 2, 1) := by decide +kernel
theorem dX12_at_28 : decode cX12_at 28 = .ok (.iadd, 1) := by decide +kernel
theorem dX12_at_29 : decode cX12_at 29 = .ok (.iaload, 1) := by decide +kernel
theorem dX12_at_30 : decode cX12_at 30 = .ok (.goto 4, 3) := by decide +kernel
theorem dX12_at_33 : decode cX12_at 33 = .ok (.iconst (-1), 1) := by decide +kernel
theorem dX12_at_34 : decode cX12_at 34 = .ok (.ireturn, 1) := by decide +kernel
theorem dX12_book_0 : decode cX12_book 0 = .ok (.iload_n 1, 1) := by decide +kernel
theorem dX12_book_1 : decode cX12_book 1 = .ok (.iconst 0, 1) := by decide +kernel
theorem dX12_book_2 : decode cX12_book 2 = .ok (.aload_n 0, 1) := by decide +kernel
theorem dX12_book_3 : decode cX12_book 3 = .ok (.getfield 7, 3) := by decide +kernel
theorem dX12_book_6 : decode cX12_book 6 = .ok (.iconst 2, 1) := by decide +kernel
theorem dX12_book_7 : decode cX12_book 7 = .ok (.iaload, 1) := by decide +kernel
theorem dX12_book_8 : decode cX12_book 8 = .ok (.iconst 1, 1) := by decide +kernel
theorem dX12_book_9 : decode cX12_book 9 = .ok (.isub, 1) := by decide +kernel
theorem dX12_book_10 : decode cX12_book 10 = .ok (.invokestatic 71, 3) := by decide +kernel
theorem dX12_book_13 : decode cX12_book 13 = .ok (.ifCond .eq 31, 3) := by decide +kernel
theorem dX12_book_16 : decode cX12_book 16 = .ok (.iload_n 2, 1) := by decide +kernel
theorem dX12_book_17 : decode cX12_book 17 = .ok (.iconst 0, 1) := by decide +kernel
theorem dX12_book_18 : decode cX12_book 18 = .ok (.bipush 8, 2) := by decide +kernel
theorem dX12_book_20 : decode cX12_book 20 = .ok (.invokestatic 71, 3) := by decide +kernel
theorem dX12_book_23 : decode cX12_book 23 = .ok (.ifCond .eq 21, 3) := by decide +kernel
theorem dX12_book_26 : decode cX12_book 26 = .ok (.aload_n 0, 1) := by decide +kernel
theorem dX12_book_27 : decode cX12_book 27 = .ok (.getfield 7, 3) := by decide +kernel
theorem dX12_book_30 : decode cX12_book 30 = .ok (.sipush 3296, 3) := by decide +kernel
theorem dX12_book_33 : decode cX12_book 33 = .ok (.bipush 10, 2) := by decide +kernel
theorem dX12_book_35 : decode cX12_book 35 = .ok (.iload_n 1, 1) := by decide +kernel
theorem dX12_book_36 : decode cX12_book 36 = .ok (.imul, 1) := by decide +kernel
theorem dX12_book_37 : decode cX12_book 37 = .ok (.iadd, 1) := by decide +kernel
theorem dX12_book_38 : decode cX12_book 38 = .ok (.iload_n 2, 1) := by decide +kernel
theorem dX12_book_39 : decode cX12_book 39 = .ok (.iadd, 1) := by decide +kernel
theorem dX12_book_40 : decode cX12_book 40 = .ok (.iaload, 1) := by decide +kernel
theorem dX12_book_41 : decode cX12_book 41 = .ok (.goto 5, 3) := by decide +kernel
theorem dX12_book_44 : decode cX12_book 44 = .ok (.bipush (-100), 2) := by decide +kernel
theorem dX12_book_46 : decode cX12_book 46 = .ok (.ireturn, 1) := by decide +kernel
theorem dX12_fly_0 : decode cX12_fly 0 = .ok (.iload_n 1, 1) := by decide +kernel
theorem dX12_fly_1 : decode cX12_fly 1 = .ok (.iconst 0, 1) := by decide +kernel
theorem dX12_fly_2 : decode cX12_fly 2 = .ok (.bipush 99, 2) := by decide +kernel
theorem dX12_fly_4 : decode cX12_fly 4 = .ok (.invokestatic 71, 3) := by decide +kernel
theorem dX12_fly_7 : decode cX12_fly 7 = .ok (.ifCond .eq 57, 3) := by decide +kernel
theorem dX12_fly_10 : decode cX12_fly 10 = .ok (.iload_n 2, 1) := by decide +kernel
theorem dX12_fly_11 : decode cX12_fly 11 = .ok (.iconst 0, 1) := by decide +kernel
theorem dX12_fly_12 : decode cX12_fly 12 = .ok (.bipush 90, 2) := by decide +kernel
theorem dX12_fly_14 : decode cX12_fly 14 = .ok (.invokestatic 71, 3) := by decide +kernel
theorem dX12_fly_17 : decode cX12_fly 17 = .ok (.ifCond .eq 47, 3) := by decide +kernel
theorem dX12_fly_20 : decode cX12_fly 20 = .ok (.iload_n 3, 1) := by decide +kernel
theorem dX12_fly_21 : decode cX12_fly 21 = .ok (.bipush (-9), 2) := by decide +kernel
theorem dX12_fly_23 : decode cX12_fly 23 = .ok (.bipush 9, 2) := by decide +kernel
theorem dX12_fly_25 : decode cX12_fly 25 = .ok (.invokestatic 71, 3) := by decide +kernel
theorem dX12_fly_28 : decode cX12_fly 28 = .ok (.ifCond .eq 36, 3) := by decide +kernel
theorem dX12_fly_31 : decode cX12_fly 31 = .ok (.aload_n 0, 1) := by decide +kernel
theorem dX12_fly_32 : decode cX12_fly 32 = .ok (.iload 4, 2) := by decide +kernel
theorem dX12_fly_34 : decode cX12_fly 34 = .ok (.invokevirtual 401, 3) := by decide +kernel
theorem dX12_fly_37 : decode cX12_fly 37 = .ok (.ifCond .eq 27, 3) := by decide +kernel
theorem dX12_fly_40 : decode cX12_fly 40 = .ok (.iload 5, 2) := by decide +kernel
theorem dX12_fly_42 : decode cX12_fly 42 = .ok (.bipush (-29), 2) := by decide +kernel
theorem dX12_fly_44 : decode cX12_fly 44 = .ok (.bipush 29, 2) := by decide +kernel
theorem dX12_fly_46 : decode cX12_fly 46 = .ok (.invokestatic 71, 3) := by decide +kernel
theorem dX12_fly_49 : decode cX12_fly 49 = .ok (.ifCond .eq 15, 3) := by decide +kernel
theorem dX12_fly_52 : decode cX12_fly 52 = .ok (.iload 6, 2) := by decide +kernel
theorem dX12_fly_54 : decode cX12_fly 54 = .ok (.bipush (-29), 2) := by decide +kernel
theorem dX12_fly_56 : decode cX12_fly 56 = .ok (.bipush 29, 2) := by decide +kernel
theorem dX12_fly_58 : decode cX12_fly 58 = .ok (.invokestatic 71, 3) := by decide +kernel
theorem dX12_fly_61 : decode cX12_fly 61 = .ok (.ifCond .ne 7, 3) := by decide +kernel
theorem dX12_fly_64 : decode cX12_fly 64 = .ok (.sipush (-10000), 3) := by decide +kernel
theorem dX12_fly_67 : decode cX12_fly 67 = .ok (.ireturn, 1) := by decide +kernel
theorem dX12_fly_68 : decode cX12_fly 68 = .ok (.aload_n 0, 1) := by decide +kernel
theorem dX12_fly_69 : decode cX12_fly 69 = .ok (.iload_n 1, 1) := by decide +kernel
theorem dX12_fly_70 : decode cX12_fly 70 = .ok (.iload_n 2, 1) := by decide +kernel
theorem dX12_fly_71 : decode cX12_fly 71 = .ok (.iload_n 3, 1) := by decide +kernel
theorem dX12_fly_72 : decode cX12_fly 72 = .ok (.iload 4, 2) := by decide +kernel
theorem dX12_fly_74 : decode cX12_fly 74 = .ok (.iload 5, 2) := by decide +kernel
theorem dX12_fly_76 : decode cX12_fly 76 = .ok (.iload 6, 2) := by decide +kernel
theorem dX12_fly_78 : decode cX12_fly 78 = .ok (.invokevirtual 389, 3) := by decide +kernel
theorem dX12_fly_81 : decode cX12_fly 81 = .ok (.iload 7, 2) := by decide +kernel
theorem dX12_fly_83 : decode cX12_fly 83 = .ok (.tableswitch 84 0 6 #[41, 46, 51, 56, 61, 66, 79], 41) := by decide +kernel
theorem dX12_fly_124 : decode cX12_fly 124 = .ok (.aload_n 0, 1) := by decide +kernel
theorem dX12_fly_125 : decode cX12_fly 125 = .ok (.getfield 341, 3) := by decide +kernel
theorem dX12_fly_128 : decode cX12_fly 128 = .ok (.ireturn, 1) := by decide +kernel
theorem dX12_fly_129 : decode cX12_fly 129 = .ok (.aload_n 0, 1) := by decide +kernel
theorem dX12_fly_130 : decode cX12_fly 130 = .ok (.invokevirtual 367, 3) := by decide +kernel
theorem dX12_fly_133 : decode cX12_fly 133 = .ok (.ireturn, 1) := by decide +kernel
theorem dX12_fly_134 : decode cX12_fly 134 = .ok (.aload_n 0, 1) := by decide +kernel
theorem dX12_fly_135 : decode cX12_fly 135 = .ok (.getfield 344, 3) := by decide +kernel
theorem dX12_fly_138 : decode cX12_fly 138 = .ok (.ireturn, 1) := by decide +kernel
theorem dX12_fly_139 : decode cX12_fly 139 = .ok (.aload_n 0, 1) := by decide +kernel
theorem dX12_fly_140 : decode cX12_fly 140 = .ok (.getfield 352, 3) := by decide +kernel
theorem dX12_fly_143 : decode cX12_fly 143 = .ok (.ireturn, 1) := by decide +kernel
theorem dX12_fly_144 : decode cX12_fly 144 = .ok (.aload_n 0, 1) := by decide +kernel
theorem dX12_fly_145 : decode cX12_fly 145 = .ok (.getfield 355, 3) := by decide +kernel
theorem dX12_fly_148 : decode cX12_fly 148 = .ok (.ireturn, 1) := by decide +kernel
theorem dX12_fly_149 : decode cX12_fly 149 = .ok (.aload_n 0, 1) := by decide +kernel
theorem dX12_fly_150 : decode cX12_fly 150 = .ok (.invokevirtual 425, 3) := by decide +kernel
theorem dX12_fly_153 : decode cX12_fly 153 = .ok (.ifCond .eq 7, 3) := by decide +kernel
theorem dX12_fly_156 : decode cX12_fly 156 = .ok (.iconst 1, 1) := by decide +kernel
theorem dX12_fly_157 : decode cX12_fly 157 = .ok (.goto 4, 3) := by decide +kernel
theorem dX12_fly_160 : decode cX12_fly 160 = .ok (.iconst 0, 1) := by decide +kernel
theorem dX12_fly_161 : decode cX12_fly 161 = .ok (.ireturn, 1) := by decide +kernel
theorem dX12_fly_162 : decode cX12_fly 162 = .ok (.aload_n 0, 1) := by decide +kernel
theorem dX12_fly_163 : decode cX12_fly 163 = .ok (.getfield 350, 3) := by decide +kernel
theorem dX12_fly_166 : decode cX12_fly 166 = .ok (.ireturn, 1) := by decide +kernel
theorem dX12_fly_167 : decode cX12_fly 167 = .ok (.sipush (-10000), 3) := by decide +kernel
theorem dX12_fly_170 : decode cX12_fly 170 = .ok (.ireturn, 1) := by decide +kernel
theorem dX12_goodFar_0 : decode cX12_goodFar 0 = .ok (.aload_n 0, 1) := by decide +kernel
theorem dX12_goodFar_1 : decode cX12_goodFar 1 = .ok (.iload_n 1, 1) := by decide +kernel
theorem dX12_goodFar_2 : decode cX12_goodFar 2 = .ok (.iload_n 2, 1) := by decide +kernel
theorem dX12_goodFar_3 : decode cX12_goodFar 3 = .ok (.iconst 0, 1) := by decide +kernel
theorem dX12_goodFar_4 : decode cX12_goodFar 4 = .ok (.iload_n 3, 1) := by decide +kernel
theorem dX12_goodFar_5 : decode cX12_goodFar 5 = .ok (.iload 4, 2) := by decide +kernel
theorem dX12_goodFar_7 : decode cX12_goodFar 7 = .ok (.aload_n 0, 1) := by decide +kernel
theorem dX12_goodFar_8 : decode cX12_goodFar 8 = .ok (.iconst 1, 1) := by decide +kernel
theorem dX12_goodFar_9 : decode cX12_goodFar 9 = .ok (.invokevirtual 364, 3) := by decide +kernel
theorem dX12_goodFar_12 : decode cX12_goodFar 12 = .ok (.invokevirtual 389, 3) := by decide +kernel
theorem dX12_goodFar_15 : decode cX12_goodFar 15 = .ok (.aload_n 0, 1) := by decide +kernel
theorem dX12_goodFar_16 : decode cX12_goodFar 16 = .ok (.invokevirtual 425, 3) := by decide +kernel
theorem dX12_goodFar_19 : decode cX12_goodFar 19 = .ok (.ifCond .eq 10, 3) := by decide +kernel
theorem dX12_goodFar_22 : decode cX12_goodFar 22 = .ok (.aload_n 0, 1) := by decide +kernel
theorem dX12_goodFar_23 : decode cX12_goodFar 23 = .ok (.getfield 341, 3) := by decide +kernel
theorem dX12_goodFar_26 : decode cX12_goodFar 26 = .ok (.goto 4, 3) := by decide +kernel
theorem dX12_goodFar_29 : decode cX12_goodFar 29 = .ok (.iconst (-1), 1) := by decide +kernel
theorem dX12_goodFar_30 : decode cX12_goodFar 30 = .ok (.ireturn, 1) := by decide +kernel
theorem dX12_laysAngle_0 : decode cX12_laysAngle 0 = .ok (.aload_n 0, 1) := by decide +kernel
theorem dX12_laysAngle_1 : decode cX12_laysAngle 1 = .ok (.iconst (-1), 1) := by decide +kernel
theorem dX12_laysAngle_2 : decode cX12_laysAngle 2 = .ok (.putfield 428, 3) := by decide +kernel
theorem dX12_laysAngle_5 : decode cX12_laysAngle 5 = .ok (.aload_n 0, 1) := by decide +kernel
theorem dX12_laysAngle_6 : decode cX12_laysAngle 6 = .ok (.iconst (-1), 1) := by decide +kernel
theorem dX12_laysAngle_7 : decode cX12_laysAngle 7 = .ok (.putfield 431, 3) := by decide +kernel
theorem dX12_laysAngle_10 : decode cX12_laysAngle 10 = .ok (.iconst 0, 1) := by decide +kernel
theorem dX12_laysAngle_11 : decode cX12_laysAngle 11 = .ok (.istore 4, 2) := by decide +kernel
theorem dX12_laysAngle_13 : decode cX12_laysAngle 13 = .ok (.iload 4, 2) := by decide +kernel
theorem dX12_laysAngle_15 : decode cX12_laysAngle 15 = .ok (.bipush 60, 2) := by decide +kernel
theorem dX12_laysAngle_17 : decode cX12_laysAngle 17 = .ok (.if_icmp .gt 44, 3) := by decide +kernel
theorem dX12_laysAngle_20 : decode cX12_laysAngle 20 = .ok (.aload_n 0, 1) := by decide +kernel
theorem dX12_laysAngle_21 : decode cX12_laysAngle 21 = .ok (.iload_n 1, 1) := by decide +kernel
theorem dX12_laysAngle_22 : decode cX12_laysAngle 22 = .ok (.iload 4, 2) := by decide +kernel
theorem dX12_laysAngle_24 : decode cX12_laysAngle 24 = .ok (.iload_n 2, 1) := by decide +kernel
theorem dX12_laysAngle_25 : decode cX12_laysAngle 25 = .ok (.iload_n 3, 1) := by decide +kernel
theorem dX12_laysAngle_26 : decode cX12_laysAngle 26 = .ok (.invokevirtual 434, 3) := by decide +kernel
theorem dX12_laysAngle_29 : decode cX12_laysAngle 29 = .ok (.istore 5, 2) := by decide +kernel
theorem dX12_laysAngle_31 : decode cX12_laysAngle 31 = .ok (.iload 5, 2) := by decide +kernel
theorem dX12_laysAngle_33 : decode cX12_laysAngle 33 = .ok (.aload_n 0, 1) := by decide +kernel
theorem dX12_laysAngle_34 : decode cX12_laysAngle 34 = .ok (.getfield 431, 3) := by decide +kernel
theorem dX12_laysAngle_37 : decode cX12_laysAngle 37 = .ok (.if_icmp .gt 6, 3) := by decide +kernel
theorem dX12_laysAngle_40 : decode cX12_laysAngle 40 = .ok (.goto 15, 3) := by decide +kernel
theorem dX12_laysAngle_43 : decode cX12_laysAngle 43 = .ok (.aload_n 0, 1) := by decide +kernel
theorem dX12_laysAngle_44 : decode cX12_laysAngle 44 = .ok (.iload 5, 2) := by decide +kernel
theorem dX12_laysAngle_46 : decode cX12_laysAngle 46 = .ok (.putfield 431, 3) := by decide +kernel
theorem dX12_laysAngle_49 : decode cX12_laysAngle 49 = .ok (.aload_n 0, 1) := by decide +kernel
theorem dX12_laysAngle_50 : decode cX12_laysAngle 50 = .ok (.iload 4, 2) := by decide +kernel
theorem dX12_laysAngle_52 : decode cX12_laysAngle 52 = .ok (.putfield 428, 3) := by decide +kernel
theorem dX12_laysAngle_55 : decode cX12_laysAngle 55 = .ok (.iinc 4 1, 3) := by decide +kernel
theorem dX12_laysAngle_58 : decode cX12_laysAngle 58 = .ok (.goto (-45), 3) := by decide +kernel
theorem dX12_laysAngle_61 : decode cX12_laysAngle 61 = .ok (.return_, 1) := by decide +kernel
theorem dX12_safeFar_0 : decode cX12_safeFar 0 = .ok (.aload_n 0, 1) := by decide +kernel
theorem dX12_safeFar_1 : decode cX12_safeFar 1 = .ok (.iload_n 1, 1) := by decide +kernel
theorem dX12_safeFar_2 : decode cX12_safeFar 2 = .ok (.iload_n 2, 1) := by decide +kernel
theorem dX12_safeFar_3 : decode cX12_safeFar 3 = .ok (.iload_n 3, 1) := by decide +kernel
theorem dX12_safeFar_4 : decode cX12_safeFar 4 = .ok (.iload 4, 2) := by decide +kernel
theorem dX12_safeFar_6 : decode cX12_safeFar 6 = .ok (.invokevirtual 434, 3) := by decide +kernel
theorem dX12_safeFar_9 : decode cX12_safeFar 9 = .ok (.istore 5, 2) := by decide +kernel
theorem dX12_safeFar_11 : decode cX12_safeFar 11 = .ok (.aload_n 0, 1) := by decide +kernel
theorem dX12_safeFar_12 : decode cX12_safeFar 12 = .ok (.iconst 3, 1) := by decide +kernel
theorem dX12_safeFar_13 : decode cX12_safeFar 13 = .ok (.invokevirtual 364, 3) := by decide +kernel
theorem dX12_safeFar_16 : decode cX12_safeFar 16 = .ok (.ineg, 1) := by decide +kernel
theorem dX12_safeFar_17 : decode cX12_safeFar 17 = .ok (.istore 6, 2) := by decide +kernel
theorem dX12_safeFar_19 : decode cX12_safeFar 19 = .ok (.iload 6, 2) := by decide +kernel
theorem dX12_safeFar_21 : decode cX12_safeFar 21 = .ok (.aload_n 0, 1) := by decide +kernel
theorem dX12_safeFar_22 : decode cX12_safeFar 22 = .ok (.iconst 3, 1) := by decide +kernel
theorem dX12_safeFar_23 : decode cX12_safeFar 23 = .ok (.invokevirtual 364, 3) := by decide +kernel
theorem dX12_safeFar_26 : decode cX12_safeFar 26 = .ok (.if_icmp .gt 40, 3) := by decide +kernel
theorem dX12_safeFar_29 : decode cX12_safeFar 29 = .ok (.iload 5, 2) := by decide +kernel
theorem dX12_safeFar_31 : decode cX12_safeFar 31 = .ok (.iconst (-1), 1) := by decide +kernel
theorem dX12_safeFar_32 : decode cX12_safeFar 32 = .ok (.if_icmp .eq 34, 3) := by decide +kernel
theorem dX12_safeFar_35 : decode cX12_safeFar 35 = .ok (.iload 5, 2) := by decide +kernel
theorem dX12_safeFar_37 : decode cX12_safeFar 37 = .ok (.aload_n 0, 1) := by decide +kernel
theorem dX12_safeFar_38 : decode cX12_safeFar 38 = .ok (.iload_n 1, 1) := by decide +kernel
theorem dX12_safeFar_39 : decode cX12_safeFar 39 = .ok (.iload_n 2, 1) := by decide +kernel
theorem dX12_safeFar_40 : decode cX12_safeFar 40 = .ok (.iload 6, 2) := by decide +kernel
theorem dX12_safeFar_42 : decode cX12_safeFar 42 = .ok (.iadd, 1) := by decide +kernel
theorem dX12_safeFar_43 : decode cX12_safeFar 43 = .ok (.iconst 0, 1) := by decide +kernel
theorem dX12_safeFar_44 : decode cX12_safeFar 44 = .ok (.bipush 90, 2) := by decide +kernel
theorem dX12_safeFar_46 : decode cX12_safeFar 46 = .ok (.invokestatic 321, 3) := by decide +kernel
theorem dX12_safeFar_49 : decode cX12_safeFar 49 = .ok (.iload_n 3, 1) := by decide +kernel
theorem dX12_safeFar_50 : decode cX12_safeFar 50 = .ok (.iload 4, 2) := by decide +kernel
theorem dX12_safeFar_52 : decode cX12_safeFar 52 = .ok (.invokevirtual 434, 3) := by decide +kernel
theorem dX12_safeFar_55 : decode cX12_safeFar 55 = .ok (.invokestatic 64, 3) := by decide +kernel
theorem dX12_safeFar_58 : decode cX12_safeFar 58 = .ok (.istore 5, 2) := by decide +kernel
theorem dX12_safeFar_60 : decode cX12_safeFar 60 = .ok (.iinc 6 1, 3) := by decide +kernel
theorem dX12_safeFar_63 : decode cX12_safeFar 63 = .ok (.goto (-44), 3) := by decide +kernel
theorem dX12_safeFar_66 : decode cX12_safeFar 66 = .ok (.iload 5, 2) := by decide +kernel
theorem dX12_safeFar_68 : decode cX12_safeFar 68 = .ok (.ireturn, 1) := by decide +kernel
theorem dX12_laysSafe_0 : decode cX12_laysSafe 0 = .ok (.aload_n 0, 1) := by decide +kernel
theorem dX12_laysSafe_1 : decode cX12_laysSafe 1 = .ok (.iconst (-1), 1) := by decide +kernel
theorem dX12_laysSafe_2 : decode cX12_laysSafe 2 = .ok (.putfield 428, 3) := by decide +kernel
theorem dX12_laysSafe_5 : decode cX12_laysSafe 5 = .ok (.aload_n 0, 1) := by decide +kernel
theorem dX12_laysSafe_6 : decode cX12_laysSafe 6 = .ok (.iconst (-1), 1) := by decide +kernel
theorem dX12_laysSafe_7 : decode cX12_laysSafe 7 = .ok (.putfield 431, 3) := by decide +kernel
theorem dX12_laysSafe_10 : decode cX12_laysSafe 10 = .ok (.iconst 0, 1) := by decide +kernel
theorem dX12_laysSafe_11 : decode cX12_laysSafe 11 = .ok (.istore 4, 2) := by decide +kernel
theorem dX12_laysSafe_13 : decode cX12_laysSafe 13 = .ok (.iload 4, 2) := by decide +kernel
theorem dX12_laysSafe_15 : decode cX12_laysSafe 15 = .ok (.bipush 60, 2) := by decide +kernel
theorem dX12_laysSafe_17 : decode cX12_laysSafe 17 = .ok (.if_icmp .gt 44, 3) := by decide +kernel
theorem dX12_laysSafe_20 : decode cX12_laysSafe 20 = .ok (.aload_n 0, 1) := by decide +kernel
theorem dX12_laysSafe_21 : decode cX12_laysSafe 21 = .ok (.iload_n 1, 1) := by decide +kernel
theorem dX12_laysSafe_22 : decode cX12_laysSafe 22 = .ok (.iload 4, 2) := by decide +kernel
theorem dX12_laysSafe_24 : decode cX12_laysSafe 24 = .ok (.iload_n 2, 1) := by decide +kernel
theorem dX12_laysSafe_25 : decode cX12_laysSafe 25 = .ok (.iload_n 3, 1) := by decide +kernel
theorem dX12_laysSafe_26 : decode cX12_laysSafe 26 = .ok (.invokevirtual 437, 3) := by decide +kernel
theorem dX12_laysSafe_29 : decode cX12_laysSafe 29 = .ok (.istore 5, 2) := by decide +kernel
theorem dX12_laysSafe_31 : decode cX12_laysSafe 31 = .ok (.iload 5, 2) := by decide +kernel
theorem dX12_laysSafe_33 : decode cX12_laysSafe 33 = .ok (.aload_n 0, 1) := by decide +kernel
theorem dX12_laysSafe_34 : decode cX12_laysSafe 34 = .ok (.getfield 431, 3) := by decide +kernel
theorem dX12_laysSafe_37 : decode cX12_laysSafe 37 = .ok (.if_icmp .gt 6, 3) := by decide +kernel
theorem dX12_laysSafe_40 : decode cX12_laysSafe 40 = .ok (.goto 15, 3) := by decide +kernel
theorem dX12_laysSafe_43 : decode cX12_laysSafe 43 = .ok (.aload_n 0, 1) := by decide +kernel
theorem dX12_laysSafe_44 : decode cX12_laysSafe 44 = .ok (.iload 5, 2) := by decide +kernel
theorem dX12_laysSafe_46 : decode cX12_laysSafe 46 = .ok (.putfield 431, 3) := by decide +kernel
theorem dX12_laysSafe_49 : decode cX12_laysSafe 49 = .ok (.aload_n 0, 1) := by decide +kernel
theorem dX12_laysSafe_50 : decode cX12_laysSafe 50 = .ok (.iload 4, 2) := by decide +kernel
theorem dX12_laysSafe_52 : decode cX12_laysSafe 52 = .ok (.putfield 428, 3) := by decide +kernel
theorem dX12_laysSafe_55 : decode cX12_laysSafe 55 = .ok (.iinc 4 1, 3) := by decide +kernel
theorem dX12_laysSafe_58 : decode cX12_laysSafe 58 = .ok (.goto (-45), 3) := by decide +kernel
theorem dX12_laysSafe_61 : decode cX12_laysSafe 61 = .ok (.return_, 1) := by decide +kernel
theorem dX12_isForce_0 : decode cX12_isForce 0 = .ok (.iload_n 0, 1) := by decide +kernel
theorem dX12_isForce_1 : decode cX12_isForce 1 = .ok (.iconst 0, 1) := by decide +kernel
theorem dX12_isForce_2 : decode cX12_isForce 2 = .ok (.bipush 99, 2) := by decide +kernel
theorem dX12_isForce_4 : decode cX12_isForce 4 = .ok (.invokestatic 71, 3) := by decide +kernel
theorem dX12_isForce_7 : decode cX12_isForce 7 = .ok (.ireturn, 1) := by decide +kernel
theorem dX12_isWind_0 : decode cX12_isWind 0 = .ok (.iload_n 0, 1) := by decide +kernel
theorem dX12_isWind_1 : decode cX12_isWind 1 = .ok (.bipush (-29), 2) := by decide +kernel
theorem dX12_isWind_3 : decode cX12_isWind 3 = .ok (.bipush 29, 2) := by decide +kernel
theorem dX12_isWind_5 : decode cX12_isWind 5 = .ok (.invokestatic 71, 3) := by decide +kernel
theorem dX12_isWind_8 : decode cX12_isWind 8 = .ok (.ireturn, 1) := by decide +kernel
theorem dX12_angle_0 : decode cX12_angle 0 = .ok (.iload_n 1, 1) := by decide +kernel
theorem dX12_angle_1 : decode cX12_angle 1 = .ok (.invokestatic 440, 3) := by decide +kernel
theorem dX12_angle_4 : decode cX12_angle 4 = .ok (.ifCond .eq 28, 3) := by decide +kernel
theorem dX12_angle_7 : decode cX12_angle 7 = .ok (.aload_n 0, 1) := by decide +kernel
theorem dX12_angle_8 : decode cX12_angle 8 = .ok (.iload_n 2, 1) := by decide +kernel
theorem dX12_angle_9 : decode cX12_angle 9 = .ok (.invokevirtual 401, 3) := by decide +kernel
theorem dX12_angle_12 : decode cX12_angle 12 = .ok (.ifCond .eq 20, 3) := by decide +kernel
theorem dX12_angle_15 : decode cX12_angle 15 = .ok (.iload_n 3, 1) := by decide +kernel
theorem dX12_angle_16 : decode cX12_angle 16 = .ok (.invokestatic 443, 3) := by decide +kernel
theorem dX12_angle_19 : decode cX12_angle 19 = .ok (.ifCond .eq 13, 3) := by decide +kernel
theorem dX12_angle_22 : decode cX12_angle 22 = .ok (.iload 4, 2) := by decide +kernel
theorem dX12_angle_24 : decode cX12_angle 24 = .ok (.iconst 0, 1) := by decide +kernel
theorem dX12_angle_25 : decode cX12_angle 25 = .ok (.iconst 3, 1) := by decide +kernel
theorem dX12_angle_26 : decode cX12_angle 26 = .ok (.invokestatic 71, 3) := by decide +kernel
theorem dX12_angle_29 : decode cX12_angle 29 = .ok (.ifCond .ne 5, 3) := by decide +kernel
theorem dX12_angle_32 : decode cX12_angle 32 = .ok (.iconst (-1), 1) := by decide +kernel
theorem dX12_angle_33 : decode cX12_angle 33 = .ok (.ireturn, 1) := by decide +kernel
theorem dX12_angle_34 : decode cX12_angle 34 = .ok (.iload 4, 2) := by decide +kernel
theorem dX12_angle_36 : decode cX12_angle 36 = .ok (.iconst 2, 1) := by decide +kernel
theorem dX12_angle_37 : decode cX12_angle 37 = .ok (.if_icmp .ge 13, 3) := by decide +kernel
theorem dX12_angle_40 : decode cX12_angle 40 = .ok (.aload_n 0, 1) := by decide +kernel
theorem dX12_angle_41 : decode cX12_angle 41 = .ok (.iload_n 1, 1) := by decide +kernel
theorem dX12_angle_42 : decode cX12_angle 42 = .ok (.iload_n 2, 1) := by decide +kernel
theorem dX12_angle_43 : decode cX12_angle 43 = .ok (.iload_n 3, 1) := by decide +kernel
theorem dX12_angle_44 : decode cX12_angle 44 = .ok (.invokevirtual 446, 3) := by decide +kernel
theorem dX12_angle_47 : decode cX12_angle 47 = .ok (.goto 10, 3) := by decide +kernel
theorem dX12_angle_50 : decode cX12_angle 50 = .ok (.aload_n 0, 1) := by decide +kernel
theorem dX12_angle_51 : decode cX12_angle 51 = .ok (.iload_n 1, 1) := by decide +kernel
theorem dX12_angle_52 : decode cX12_angle 52 = .ok (.iload_n 2, 1) := by decide +kernel
theorem dX12_angle_53 : decode cX12_angle 53 = .ok (.iload_n 3, 1) := by decide +kernel
theorem dX12_angle_54 : decode cX12_angle 54 = .ok (.invokevirtual 449, 3) := by decide +kernel
theorem dX12_angle_57 : decode cX12_angle 57 = .ok (.iload 4, 2) := by decide +kernel
theorem dX12_angle_59 : decode cX12_angle 59 = .ok (.iconst 2, 1) := by decide +kernel
theorem dX12_angle_60 : decode cX12_angle 60 = .ok (.irem, 1) := by decide +kernel
theorem dX12_angle_61 : decode cX12_angle 61 = .ok (.ifCond .ne 10, 3) := by decide +kernel
theorem dX12_angle_64 : decode cX12_angle 64 = .ok (.aload_n 0, 1) := by decide +kernel
theorem dX12_angle_65 : decode cX12_angle 65 = .ok (.getfield 428, 3) := by decide +kernel
theorem dX12_angle_68 : decode cX12_angle 68 = .ok (.goto 7, 3) := by decide +kernel
theorem dX12_angle_71 : decode cX12_angle 71 = .ok (.aload_n 0, 1) := by decide +kernel
theorem dX12_angle_72 : decode cX12_angle 72 = .ok (.getfield 431, 3) := by decide +kernel
theorem dX12_angle_75 : decode cX12_angle 75 = .ok (.ireturn, 1) := by decide +kernel
theorem dX12_right_0 : decode cX12_right 0 = .ok (.iload_n 1, 1) := by decide +kernel
theorem dX12_right_1 : decode cX12_right 1 = .ok (.invokestatic 440, 3) := by decide +kernel
theorem dX12_right_4 : decode cX12_right 4 = .ok (.ifCond .eq 10, 3) := by decide +kernel
theorem dX12_right_7 : decode cX12_right 7 = .ok (.iload_n 2, 1) := by decide +kernel
theorem dX12_right_8 : decode cX12_right 8 = .ok (.invokestatic 443, 3) := by decide +kernel
theorem dX12_right_11 : decode cX12_right 11 = .ok (.ifCond .ne 5, 3) := by decide +kernel
theorem dX12_right_14 : decode cX12_right 14 = .ok (.iconst (-1), 1) := by decide +kernel
theorem dX12_right_15 : decode cX12_right 15 = .ok (.ireturn, 1) := by decide +kernel
theorem dX12_right_16 : decode cX12_right 16 = .ok (.iconst (-1), 1) := by decide +kernel
theorem dX12_right_17 : decode cX12_right 17 = .ok (.istore_n 3, 1) := by decide +kernel
theorem dX12_right_18 : decode cX12_right 18 = .ok (.iconst (-1), 1) := by decide +kernel
theorem dX12_right_19 : decode cX12_right 19 = .ok (.istore 4, 2) := by decide +kernel
theorem dX12_right_21 : decode cX12_right 21 = .ok (.iconst 0, 1) := by decide +kernel
theorem dX12_right_22 : decode cX12_right 22 = .ok (.istore 5, 2) := by decide +kernel
theorem dX12_right_24 : decode cX12_right 24 = .ok (.iload 5, 2) := by decide +kernel
theorem dX12_right_26 : decode cX12_right 26 = .ok (.aload_n 0, 1) := by decide +kernel
theorem dX12_right_27 : decode cX12_right 27 = .ok (.getfield 7, 3) := by decide +kernel
theorem dX12_right_30 : decode cX12_right 30 = .ok (.bipush 67, 2) := by decide +kernel
theorem dX12_right_32 : decode cX12_right 32 = .ok (.iaload, 1) := by decide +kernel
theorem dX12_right_33 : decode cX12_right 33 = .ok (.if_icmp .ge 38, 3) := by decide +kernel
theorem dX12_right_36 : decode cX12_right 36 = .ok (.aload_n 0, 1) := by decide +kernel
theorem dX12_right_37 : decode cX12_right 37 = .ok (.iload_n 1, 1) := by decide +kernel
theorem dX12_right_38 : decode cX12_right 38 = .ok (.iload 5, 2) := by decide +kernel
theorem dX12_right_40 : decode cX12_right 40 = .ok (.iload_n 2, 1) := by decide +kernel
theorem dX12_right_41 : decode cX12_right 41 = .ok (.invokevirtual 446, 3) := by decide +kernel
theorem dX12_right_44 : decode cX12_right 44 = .ok (.aload_n 0, 1) := by decide +kernel
theorem dX12_right_45 : decode cX12_right 45 = .ok (.getfield 431, 3) := by decide +kernel
theorem dX12_right_48 : decode cX12_right 48 = .ok (.iload 4, 2) := by decide +kernel
theorem dX12_right_50 : decode cX12_right 50 = .ok (.if_icmp .gt 6, 3) := by decide +kernel
theorem dX12_right_53 : decode cX12_right 53 = .ok (.goto 12, 3) := by decide +kernel
theorem dX12_right_56 : decode cX12_right 56 = .ok (.aload_n 0, 1) := by decide +kernel
theorem dX12_right_57 : decode cX12_right 57 = .ok (.getfield 431, 3) := by decide +kernel
theorem dX12_right_60 : decode cX12_right 60 = .ok (.istore 4, 2) := by decide +kernel
theorem dX12_right_62 : decode cX12_right 62 = .ok (.iload 5, 2) := by decide +kernel
theorem dX12_right_64 : decode cX12_right 64 = .ok (.istore_n 3, 1) := by decide +kernel
theorem dX12_right_65 : decode cX12_right 65 = .ok (.iinc 5 1, 3) := by decide +kernel
theorem dX12_right_68 : decode cX12_right 68 = .ok (.goto (-44), 3) := by decide +kernel
theorem dX12_right_71 : decode cX12_right 71 = .ok (.iload_n 3, 1) := by decide +kernel
theorem dX12_right_72 : decode cX12_right 72 = .ok (.ireturn, 1) := by decide +kernel
theorem dX12_winds_0 : decode cX12_winds 0 = .ok (.iload_n 1, 1) := by decide +kernel
theorem dX12_winds_1 : decode cX12_winds 1 = .ok (.invokestatic 440, 3) := by decide +kernel
theorem dX12_winds_4 : decode cX12_winds 4 = .ok (.ifCond .eq 33, 3) := by decide +kernel
theorem dX12_winds_7 : decode cX12_winds 7 = .ok (.iload_n 2, 1) := by decide +kernel
theorem dX12_winds_8 : decode cX12_winds 8 = .ok (.iconst 0, 1) := by decide +kernel
theorem dX12_winds_9 : decode cX12_winds 9 = .ok (.bipush 60, 2) := by decide +kernel
theorem dX12_winds_11 : decode cX12_winds 11 = .ok (.invokestatic 71, 3) := by decide +kernel
theorem dX12_winds_14 : decode cX12_winds 14 = .ok (.ifCond .eq 23, 3) := by decide +kernel
theorem dX12_winds_17 : decode cX12_winds 17 = .ok (.aload_n 0, 1) := by decide +kernel
theorem dX12_winds_18 : decode cX12_winds 18 = .ok (.iload_n 3, 1) := by decide +kernel
theorem dX12_winds_19 : decode cX12_winds 19 = .ok (.invokevirtual 401, 3) := by decide +kernel
theorem dX12_winds_22 : decode cX12_winds 22 = .ok (.ifCond .eq 15, 3) := by decide +kernel
theorem dX12_winds_25 : decode cX12_winds 25 = .ok (.iload 5, 2) := by decide +kernel
theorem dX12_winds_27 : decode cX12_winds 27 = .ok (.iconst 0, 1) := by decide +kernel
theorem dX12_winds_28 : decode cX12_winds 28 = .ok (.sipush 999, 3) := by decide +kernel
theorem dX12_winds_31 : decode cX12_winds 31 = .ok (.invokestatic 71, 3) := by decide +kernel
theorem dX12_winds_34 : decode cX12_winds 34 = .ok (.ifCond .ne 7, 3) := by decide +kernel
theorem dX12_winds_37 : decode cX12_winds 37 = .ok (.ldc2_w 452, 3) := by decide +kernel
theorem dX12_winds_40 : decode cX12_winds 40 = .ok (.lreturn, 1) := by decide +kernel
theorem dX12_winds_41 : decode cX12_winds 41 = .ok (.lconst 0, 1) := by decide +kernel
theorem dX12_winds_42 : decode cX12_winds 42 = .ok (.lstore 6, 2) := by decide +kernel
theorem dX12_winds_44 : decode cX12_winds 44 = .ok (.bipush (-20), 2) := by decide +kernel
theorem dX12_winds_46 : decode cX12_winds 46 = .ok (.istore 8, 2) := by decide +kernel
theorem dX12_winds_48 : decode cX12_winds 48 = .ok (.iload 8, 2) := by decide +kernel
theorem dX12_winds_50 : decode cX12_winds 50 = .ok (.bipush 20, 2) := by decide +kernel
theorem dX12_winds_52 : decode cX12_winds 52 = .ok (.if_icmp .gt 66, 3) := by decide +kernel
theorem dX12_winds_55 : decode cX12_winds 55 = .ok (.aload_n 0, 1) := by decide +kernel
theorem dX12_winds_56 : decode cX12_winds 56 = .ok (.iload_n 1, 1) := by decide +kernel
theorem dX12_winds_57 : decode cX12_winds 57 = .ok (.iload_n 2, 1) := by decide +kernel
theorem dX12_winds_58 : decode cX12_winds 58 = .ok (.iconst 0, 1) := by decide +kernel
theorem dX12_winds_59 : decode cX12_winds 59 = .ok (.iload_n 3, 1) := by decide +kernel
theorem dX12_winds_60 : decode cX12_winds 60 = .ok (.iload 8, 2) := by decide +kernel
theorem dX12_winds_62 : decode cX12_winds 62 = .ok (.aload_n 0, 1) := by decide +kernel
theorem dX12_winds_63 : decode cX12_winds 63 = .ok (.iconst 1, 1) := by decide +kernel
theorem dX12_winds_64 : decode cX12_winds 64 = .ok (.invokevirtual 364, 3) := by decide +kernel
theorem dX12_winds_67 : decode cX12_winds 67 = .ok (.invokevirtual 389, 3) := by decide +kernel
theorem dX12_winds_70 : decode cX12_winds 70 = .ok (.aload_n 0, 1) := by decide +kernel
theorem dX12_winds_71 : decode cX12_winds 71 = .ok (.getfield 341, 3) := by decide +kernel
theorem dX12_winds_74 : decode cX12_winds 74 = .ok (.i2l, 1) := by decide +kernel
theorem dX12_winds_75 : decode cX12_winds 75 = .ok (.iload 4, 2) := by decide +kernel
theorem dX12_winds_77 : decode cX12_winds 77 = .ok (.i2l, 1) := by decide +kernel
theorem dX12_winds_78 : decode cX12_winds 78 = .ok (.lsub, 1) := by decide +kernel
theorem dX12_winds_79 : decode cX12_winds 79 = .ok (.lstore 9, 2) := by decide +kernel
theorem dX12_winds_81 : decode cX12_winds 81 = .ok (.lload 9, 2) := by decide +kernel
theorem dX12_winds_83 : decode cX12_winds 83 = .ok (.iload 5, 2) := by decide +kernel
theorem dX12_winds_85 : decode cX12_winds 85 = .ok (.i2l, 1) := by decide +kernel
theorem dX12_winds_86 : decode cX12_winds 86 = .ok (.lcmp, 1) := by decide +kernel
theorem dX12_winds_87 : decode cX12_winds 87 = .ok (.ifCond .gt 25, 3) := by decide +kernel
theorem dX12_winds_90 : decode cX12_winds 90 = .ok (.lload 9, 2) := by decide +kernel
theorem dX12_winds_92 : decode cX12_winds 92 = .ok (.lneg, 1) := by decide +kernel
theorem dX12_winds_93 : decode cX12_winds 93 = .ok (.iload 5, 2) := by decide +kernel
theorem dX12_winds_95 : decode cX12_winds 95 = .ok (.i2l, 1) := by decide +kernel
theorem dX12_winds_96 : decode cX12_winds 96 = .ok (.lcmp, 1) := by decide +kernel
theorem dX12_winds_97 : decode cX12_winds 97 = .ok (.ifCond .gt 15, 3) := by decide +kernel
theorem dX12_winds_100 : decode cX12_winds 100 = .ok (.lload 6, 2) := by decide +kernel
theorem dX12_winds_102 : decode cX12_winds 102 = .ok (.lconst 1, 1) := by decide +kernel
theorem dX12_winds_103 : decode cX12_winds 103 = .ok (.iload 8, 2) := by decide +kernel
theorem dX12_winds_105 : decode cX12_winds 105 = .ok (.bipush 20, 2) := by decide +kernel
theorem dX12_winds_107 : decode cX12_winds 107 = .ok (.iadd, 1) := by decide +kernel
theorem dX12_winds_108 : decode cX12_winds 108 = .ok (.lshl, 1) := by decide +kernel
theorem dX12_winds_109 : decode cX12_winds 109 = .ok (.lor, 1) := by decide +kernel
theorem dX12_winds_110 : decode cX12_winds 110 = .ok (.lstore 6, 2) := by decide +kernel
theorem dX12_winds_112 : decode cX12_winds 112 = .ok (.iinc 8 1, 3) := by decide +kernel
theorem dX12_winds_115 : decode cX12_winds 115 = .ok (.goto (-67), 3) := by decide +kernel
theorem dX12_winds_118 : decode cX12_winds 118 = .ok (.lload 6, 2) := by decide +kernel
theorem dX12_winds_120 : decode cX12_winds 120 = .ok (.lreturn, 1) := by decide +kernel
theorem dX12_still_0 : decode cX12_still 0 = .ok (.iload_n 1, 1) := by decide +kernel
theorem dX12_still_1 : decode cX12_still 1 = .ok (.iconst 0, 1) := by decide +kernel
theorem dX12_still_2 : decode cX12_still 2 = .ok (.aload_n 0, 1) := by decide +kernel
theorem dX12_still_3 : decode cX12_still 3 = .ok (.getfield 7, 3) := by decide +kernel
theorem dX12_still_6 : decode cX12_still 6 = .ok (.iconst 2, 1) := by decide +kernel
theorem dX12_still_7 : decode cX12_still 7 = .ok (.iaload, 1) := by decide +kernel
theorem dX12_still_8 : decode cX12_still 8 = .ok (.iconst 1, 1) := by decide +kernel
theorem dX12_still_9 : decode cX12_still 9 = .ok (.isub, 1) := by decide +kernel
theorem dX12_still_10 : decode cX12_still 10 = .ok (.invokestatic 71, 3) := by decide +kernel
theorem dX12_still_13 : decode cX12_still 13 = .ok (.ifCond .ne 5, 3) := by decide +kernel
theorem dX12_still_16 : decode cX12_still 16 = .ok (.iconst (-1), 1) := by decide +kernel
theorem dX12_still_17 : decode cX12_still 17 = .ok (.ireturn, 1) := by decide +kernel
theorem dX12_still_18 : decode cX12_still 18 = .ok (.sipush 3296, 3) := by decide +kernel
theorem dX12_still_21 : decode cX12_still 21 = .ok (.bipush 10, 2) := by decide +kernel
theorem dX12_still_23 : decode cX12_still 23 = .ok (.iload_n 1, 1) := by decide +kernel
theorem dX12_still_24 : decode cX12_still 24 = .ok (.imul, 1) := by decide +kernel
theorem dX12_still_25 : decode cX12_still 25 = .ok (.iadd, 1) := by decide +kernel
theorem dX12_still_26 : decode cX12_still 26 = .ok (.istore_n 2, 1) := by decide +kernel
theorem dX12_still_27 : decode cX12_still 27 = .ok (.aload_n 0, 1) := by decide +kernel
theorem dX12_still_28 : decode cX12_still 28 = .ok (.aload_n 0, 1) := by decide +kernel
theorem dX12_still_29 : decode cX12_still 29 = .ok (.getfield 7, 3) := by decide +kernel
theorem dX12_still_32 : decode cX12_still 32 = .ok (.iload_n 2, 1) := by decide +kernel
theorem dX12_still_33 : decode cX12_still 33 = .ok (.iconst 4, 1) := by decide +kernel
theorem dX12_still_34 : decode cX12_still 34 = .ok (.iadd, 1) := by decide +kernel
theorem dX12_still_35 : decode cX12_still 35 = .ok (.iaload, 1) := by decide +kernel
theorem dX12_still_36 : decode cX12_still 36 = .ok (.aload_n 0, 1) := by decide +kernel
theorem dX12_still_37 : decode cX12_still 37 = .ok (.getfield 7, 3) := by decide +kernel
theorem dX12_still_40 : decode cX12_still 40 = .ok (.iload_n 2, 1) := by decide +kernel
theorem dX12_still_41 : decode cX12_still 41 = .ok (.iconst 5, 1) := by decide +kernel
theorem dX12_still_42 : decode cX12_still 42 = .ok (.iadd, 1) := by decide +kernel
theorem dX12_still_43 : decode cX12_still 43 = .ok (.iaload, 1) := by decide +kernel
theorem dX12_still_44 : decode cX12_still 44 = .ok (.iconst 0, 1) := by decide +kernel
theorem dX12_still_45 : decode cX12_still 45 = .ok (.aload_n 0, 1) := by decide +kernel
theorem dX12_still_46 : decode cX12_still 46 = .ok (.getfield 7, 3) := by decide +kernel
theorem dX12_still_49 : decode cX12_still 49 = .ok (.iload_n 2, 1) := by decide +kernel
theorem dX12_still_50 : decode cX12_still 50 = .ok (.iconst 3, 1) := by decide +kernel
theorem dX12_still_51 : decode cX12_still 51 = .ok (.iadd, 1) := by decide +kernel
theorem dX12_still_52 : decode cX12_still 52 = .ok (.iaload, 1) := by decide +kernel
theorem dX12_still_53 : decode cX12_still 53 = .ok (.iconst 0, 1) := by decide +kernel
theorem dX12_still_54 : decode cX12_still 54 = .ok (.aload_n 0, 1) := by decide +kernel
theorem dX12_still_55 : decode cX12_still 55 = .ok (.iconst 1, 1) := by decide +kernel
theorem dX12_still_56 : decode cX12_still 56 = .ok (.invokevirtual 364, 3) := by decide +kernel
theorem dX12_still_59 : decode cX12_still 59 = .ok (.invokevirtual 389, 3) := by decide +kernel
theorem dX12_still_62 : decode cX12_still 62 = .ok (.aload_n 0, 1) := by decide +kernel
theorem dX12_still_63 : decode cX12_still 63 = .ok (.getfield 341, 3) := by decide +kernel
theorem dX12_still_66 : decode cX12_still 66 = .ok (.ireturn, 1) := by decide +kernel
theorem dX12_laysMark_0 : decode cX12_laysMark 0 = .ok (.aload_n 0, 1) := by decide +kernel
theorem dX12_laysMark_1 : decode cX12_laysMark 1 = .ok (.iconst (-1), 1) := by decide +kernel
theorem dX12_laysMark_2 : decode cX12_laysMark 2 = .ok (.putfield 454, 3) := by decide +kernel
theorem dX12_laysMark_5 : decode cX12_laysMark 5 = .ok (.aload_n 0, 1) := by decide +kernel
theorem dX12_laysMark_6 : decode cX12_laysMark 6 = .ok (.iconst (-1), 1) := by decide +kernel
theorem dX12_laysMark_7 : decode cX12_laysMark 7 = .ok (.putfield 457, 3) := by decide +kernel
theorem dX12_laysMark_10 : decode cX12_laysMark 10 = .ok (.iconst 0, 1) := by decide +kernel
theorem dX12_laysMark_11 : decode cX12_laysMark 11 = .ok (.istore 4, 2) := by decide +kernel
theorem dX12_laysMark_13 : decode cX12_laysMark 13 = .ok (.iload 4, 2) := by decide +kernel
theorem dX12_laysMark_15 : decode cX12_laysMark 15 = .ok (.bipush 100, 2) := by decide +kernel
theorem dX12_laysMark_17 : decode cX12_laysMark 17 = .ok (.if_icmp .ge 80, 3) := by decide +kernel
theorem dX12_laysMark_20 : decode cX12_laysMark 20 = .ok (.aload_n 0, 1) := by decide +kernel
theorem dX12_laysMark_21 : decode cX12_laysMark 21 = .ok (.getfield 454, 3) := by decide +kernel
theorem dX12_laysMark_24 : decode cX12_laysMark 24 = .ok (.iconst (-1), 1) := by decide +kernel
theorem dX12_laysMark_25 : decode cX12_laysMark 25 = .ok (.if_icmp .ne 72, 3) := by decide +kernel
theorem dX12_laysMark_28 : decode cX12_laysMark 28 = .ok (.iconst 0, 1) := by decide +kernel
theorem dX12_laysMark_29 : decode cX12_laysMark 29 = .ok (.istore 5, 2) := by decide +kernel
theorem dX12_laysMark_31 : decode cX12_laysMark 31 = .ok (.iload 5, 2) := by decide +kernel
theorem dX12_laysMark_33 : decode cX12_laysMark 33 = .ok (.bipush 60, 2) := by decide +kernel
theorem dX12_laysMark_35 : decode cX12_laysMark 35 = .ok (.if_icmp .gt 56, 3) := by decide +kernel
theorem dX12_laysMark_38 : decode cX12_laysMark 38 = .ok (.aload_n 0, 1) := by decide +kernel
theorem dX12_laysMark_39 : decode cX12_laysMark 39 = .ok (.getfield 454, 3) := by decide +kernel
theorem dX12_laysMark_42 : decode cX12_laysMark 42 = .ok (.iconst (-1), 1) := by decide +kernel
theorem dX12_laysMark_43 : decode cX12_laysMark 43 = .ok (.if_icmp .ne 48, 3) := by decide +kernel
theorem dX12_laysMark_46 : decode cX12_laysMark 46 = .ok (.aload_n 0, 1) := by decide +kernel
theorem dX12_laysMark_47 : decode cX12_laysMark 47 = .ok (.iload 4, 2) := by decide +kernel
theorem dX12_laysMark_49 : decode cX12_laysMark 49 = .ok (.iload 5, 2) := by decide +kernel
theorem dX12_laysMark_51 : decode cX12_laysMark 51 = .ok (.iload_n 1, 1) := by decide +kernel
theorem dX12_laysMark_52 : decode cX12_laysMark 52 = .ok (.iload_n 2, 1) := by decide +kernel
theorem dX12_laysMark_53 : decode cX12_laysMark 53 = .ok (.invokevirtual 434, 3) := by decide +kernel
theorem dX12_laysMark_56 : decode cX12_laysMark 56 = .ok (.istore 6, 2) := by decide +kernel
theorem dX12_laysMark_58 : decode cX12_laysMark 58 = .ok (.iload 6, 2) := by decide +kernel
theorem dX12_laysMark_60 : decode cX12_laysMark 60 = .ok (.iconst (-1), 1) := by decide +kernel
theorem dX12_laysMark_61 : decode cX12_laysMark 61 = .ok (.if_icmp .eq 24, 3) := by decide +kernel
theorem dX12_laysMark_64 : decode cX12_laysMark 64 = .ok (.iload 6, 2) := by decide +kernel
theorem dX12_laysMark_66 : decode cX12_laysMark 66 = .ok (.iload_n 3, 1) := by decide +kernel
theorem dX12_laysMark_67 : decode cX12_laysMark 67 = .ok (.if_icmp .ge 6, 3) := by decide +kernel
theorem dX12_laysMark_70 : decode cX12_laysMark 70 = .ok (.goto 15, 3) := by decide +kernel
theorem dX12_laysMark_73 : decode cX12_laysMark 73 = .ok (.aload_n 0, 1) := by decide +kernel
theorem dX12_laysMark_74 : decode cX12_laysMark 74 = .ok (.iload 4, 2) := by decide +kernel
theorem dX12_laysMark_76 : decode cX12_laysMark 76 = .ok (.putfield 454, 3) := by decide +kernel
theorem dX12_laysMark_79 : decode cX12_laysMark 79 = .ok (.aload_n 0, 1) := by decide +kernel
theorem dX12_laysMark_80 : decode cX12_laysMark 80 = .ok (.iload 5, 2) := by decide +kernel
theorem dX12_laysMark_82 : decode cX12_laysMark 82 = .ok (.putfield 457, 3) := by decide +kernel
theorem dX12_laysMark_85 : decode cX12_laysMark 85 = .ok (.iinc 5 1, 3) := by decide +kernel
theorem dX12_laysMark_88 : decode cX12_laysMark 88 = .ok (.goto (-57), 3) := by decide +kernel
theorem dX12_laysMark_91 : decode cX12_laysMark 91 = .ok (.iinc 4 1, 3) := by decide +kernel
theorem dX12_laysMark_94 : decode cX12_laysMark 94 = .ok (.goto (-81), 3) := by decide +kernel
theorem dX12_laysMark_97 : decode cX12_laysMark 97 = .ok (.return_, 1) := by decide +kernel
theorem dX12_leastForce_0 : decode cX12_leastForce 0 = .ok (.aload_n 0, 1) := by decide +kernel
theorem dX12_leastForce_1 : decode cX12_leastForce 1 = .ok (.iload_n 1, 1) := by decide +kernel
theorem dX12_leastForce_2 : decode cX12_leastForce 2 = .ok (.invokevirtual 401, 3) := by decide +kernel
theorem dX12_leastForce_5 : decode cX12_leastForce 5 = .ok (.ifCond .eq 20, 3) := by decide +kernel
theorem dX12_leastForce_8 : decode cX12_leastForce 8 = .ok (.iload_n 2, 1) := by decide +kernel
theorem dX12_leastForce_9 : decode cX12_leastForce 9 = .ok (.invokestatic 443, 3) := by decide +kernel
theorem dX12_leastForce_12 : decode cX12_leastForce 12 = .ok (.ifCond .eq 13, 3) := by decide +kernel
theorem dX12_leastForce_15 : decode cX12_leastForce 15 = .ok (.iload 4, 2) := by decide +kernel
theorem dX12_leastForce_17 : decode cX12_leastForce 17 = .ok (.iconst 0, 1) := by decide +kernel
theorem dX12_leastForce_18 : decode cX12_leastForce 18 = .ok (.iconst 1, 1) := by decide +kernel
theorem dX12_leastForce_19 : decode cX12_leastForce 19 = .ok (.invokestatic 71, 3) := by decide +kernel
theorem dX12_leastForce_22 : decode cX12_leastForce 22 = .ok (.ifCond .ne 5, 3) := by decide +kernel
theorem dX12_leastForce_25 : decode cX12_leastForce 25 = .ok (.iconst (-1), 1) := by decide +kernel
theorem dX12_leastForce_26 : decode cX12_leastForce 26 = .ok (.ireturn, 1) := by decide +kernel
theorem dX12_leastForce_27 : decode cX12_leastForce 27 = .ok (.aload_n 0, 1) := by decide +kernel
theorem dX12_leastForce_28 : decode cX12_leastForce 28 = .ok (.iload_n 1, 1) := by decide +kernel
theorem dX12_leastForce_29 : decode cX12_leastForce 29 = .ok (.iload_n 2, 1) := by decide +kernel
theorem dX12_leastForce_30 : decode cX12_leastForce 30 = .ok (.iload_n 3, 1) := by decide +kernel
theorem dX12_leastForce_31 : decode cX12_leastForce 31 = .ok (.invokevirtual 460, 3) := by decide +kernel
theorem dX12_leastForce_34 : decode cX12_leastForce 34 = .ok (.iload 4, 2) := by decide +kernel
theorem dX12_leastForce_36 : decode cX12_leastForce 36 = .ok (.ifCond .ne 10, 3) := by decide +kernel
theorem dX12_leastForce_39 : decode cX12_leastForce 39 = .ok (.aload_n 0, 1) := by decide +kernel
theorem dX12_leastForce_40 : decode cX12_leastForce 40 = .ok (.getfield 454, 3) := by decide +kernel
theorem dX12_leastForce_43 : decode cX12_leastForce 43 = .ok (.goto 7, 3) := by decide +kernel
theorem dX12_leastForce_46 : decode cX12_leastForce 46 = .ok (.aload_n 0, 1) := by decide +kernel
theorem dX12_leastForce_47 : decode cX12_leastForce 47 = .ok (.getfield 457, 3) := by decide +kernel
theorem dX12_leastForce_50 : decode cX12_leastForce 50 = .ok (.ireturn, 1) := by decide +kernel
theorem dX12_better_0 : decode cX12_better 0 = .ok (.iload_n 1, 1) := by decide +kernel
theorem dX12_better_1 : decode cX12_better 1 = .ok (.invokestatic 440, 3) := by decide +kernel
theorem dX12_better_4 : decode cX12_better 4 = .ok (.ifCond .eq 30, 3) := by decide +kernel
theorem dX12_better_7 : decode cX12_better 7 = .ok (.iload_n 2, 1) := by decide +kernel
theorem dX12_better_8 : decode cX12_better 8 = .ok (.iconst 0, 1) := by decide +kernel
theorem dX12_better_9 : decode cX12_better 9 = .ok (.bipush 60, 2) := by decide +kernel
theorem dX12_better_11 : decode cX12_better 11 = .ok (.invokestatic 71, 3) := by decide +kernel
theorem dX12_better_14 : decode cX12_better 14 = .ok (.ifCond .eq 20, 3) := by decide +kernel
theorem dX12_better_17 : decode cX12_better 17 = .ok (.aload_n 0, 1) := by decide +kernel
theorem dX12_better_18 : decode cX12_better 18 = .ok (.iload_n 3, 1) := by decide +kernel
theorem dX12_better_19 : decode cX12_better 19 = .ok (.invokevirtual 401, 3) := by decide +kernel
theorem dX12_better_22 : decode cX12_better 22 = .ok (.ifCond .eq 12, 3) := by decide +kernel
theorem dX12_better_25 : decode cX12_better 25 = .ok (.aload_n 0, 1) := by decide +kernel
theorem dX12_better_26 : decode cX12_better 26 = .ok (.iload 4, 2) := by decide +kernel
theorem dX12_better_28 : decode cX12_better 28 = .ok (.invokevirtual 401, 3) := by decide +kernel
theorem dX12_better_31 : decode cX12_better 31 = .ok (.ifCond .ne 7, 3) := by decide +kernel
theorem dX12_better_34 : decode cX12_better 34 = .ok (.ldc2_w 452, 3) := by decide +kernel
theorem dX12_better_37 : decode cX12_better 37 = .ok (.lreturn, 1) := by decide +kernel
theorem dX12_better_38 : decode cX12_better 38 = .ok (.lconst 0, 1) := by decide +kernel
theorem dX12_better_39 : decode cX12_better 39 = .ok (.lstore 5, 2) := by decide +kernel
theorem dX12_better_41 : decode cX12_better 41 = .ok (.bipush (-20), 2) := by decide +kernel
theorem dX12_better_43 : decode cX12_better 43 = .ok (.istore 7, 2) := by decide +kernel
theorem dX12_better_45 : decode cX12_better 45 = .ok (.iload 7, 2) := by decide +kernel
theorem dX12_better_47 : decode cX12_better 47 = .ok (.bipush 20, 2) := by decide +kernel
theorem dX12_better_49 : decode cX12_better 49 = .ok (.if_icmp .gt 43, 3) := by decide +kernel
theorem dX12_better_52 : decode cX12_better 52 = .ok (.aload_n 0, 1) := by decide +kernel
theorem dX12_better_53 : decode cX12_better 53 = .ok (.iload_n 1, 1) := by decide +kernel
theorem dX12_better_54 : decode cX12_better 54 = .ok (.iload_n 2, 1) := by decide +kernel
theorem dX12_better_55 : decode cX12_better 55 = .ok (.iload_n 3, 1) := by decide +kernel
theorem dX12_better_56 : decode cX12_better 56 = .ok (.iload 7, 2) := by decide +kernel
theorem dX12_better_58 : decode cX12_better 58 = .ok (.invokevirtual 434, 3) := by decide +kernel
theorem dX12_better_61 : decode cX12_better 61 = .ok (.aload_n 0, 1) := by decide +kernel
theorem dX12_better_62 : decode cX12_better 62 = .ok (.iload_n 1, 1) := by decide +kernel
theorem dX12_better_63 : decode cX12_better 63 = .ok (.iload_n 2, 1) := by decide +kernel
theorem dX12_better_64 : decode cX12_better 64 = .ok (.iload 4, 2) := by decide +kernel
theorem dX12_better_66 : decode cX12_better 66 = .ok (.iload 7, 2) := by decide +kernel
theorem dX12_better_68 : decode cX12_better 68 = .ok (.invokevirtual 434, 3) := by decide +kernel
theorem dX12_better_71 : decode cX12_better 71 = .ok (.if_icmp .le 15, 3) := by decide +kernel
theorem dX12_better_74 : decode cX12_better 74 = .ok (.lload 5, 2) := by decide +kernel
theorem dX12_better_76 : decode cX12_better 76 = .ok (.lconst 1, 1) := by decide +kernel
theorem dX12_better_77 : decode cX12_better 77 = .ok (.iload 7, 2) := by decide +kernel
theorem dX12_better_79 : decode cX12_better 79 = .ok (.bipush 20, 2) := by decide +kernel
theorem dX12_better_81 : decode cX12_better 81 = .ok (.iadd, 1) := by decide +kernel
theorem dX12_better_82 : decode cX12_better 82 = .ok (.lshl, 1) := by decide +kernel
theorem dX12_better_83 : decode cX12_better 83 = .ok (.lor, 1) := by decide +kernel
theorem dX12_better_84 : decode cX12_better 84 = .ok (.lstore 5, 2) := by decide +kernel
theorem dX12_better_86 : decode cX12_better 86 = .ok (.iinc 7 1, 3) := by decide +kernel
theorem dX12_better_89 : decode cX12_better 89 = .ok (.goto (-44), 3) := by decide +kernel
theorem dX12_better_92 : decode cX12_better 92 = .ok (.lload 5, 2) := by decide +kernel
theorem dX12_better_94 : decode cX12_better 94 = .ok (.lreturn, 1) := by decide +kernel
theorem dX12_isLine_0 : decode cX12_isLine 0 = .ok (.iload_n 1, 1) := by decide +kernel
theorem dX12_isLine_1 : decode cX12_isLine 1 = .ok (.iconst 0, 1) := by decide +kernel
theorem dX12_isLine_2 : decode cX12_isLine 2 = .ok (.aload_n 0, 1) := by decide +kernel
theorem dX12_isLine_3 : decode cX12_isLine 3 = .ok (.getfield 7, 3) := by decide +kernel
theorem dX12_isLine_6 : decode cX12_isLine 6 = .ok (.iconst 2, 1) := by decide +kernel
theorem dX12_isLine_7 : decode cX12_isLine 7 = .ok (.iaload, 1) := by decide +kernel
theorem dX12_isLine_8 : decode cX12_isLine 8 = .ok (.iconst 1, 1) := by decide +kernel
theorem dX12_isLine_9 : decode cX12_isLine 9 = .ok (.isub, 1) := by decide +kernel
theorem dX12_isLine_10 : decode cX12_isLine 10 = .ok (.invokestatic 71, 3) := by decide +kernel
theorem dX12_isLine_13 : decode cX12_isLine 13 = .ok (.ireturn, 1) := by decide +kernel
theorem dX12_span_0 : decode cX12_span 0 = .ok (.aload_n 0, 1) := by decide +kernel
theorem dX12_span_1 : decode cX12_span 1 = .ok (.iload_n 1, 1) := by decide +kernel
theorem dX12_span_2 : decode cX12_span 2 = .ok (.invokevirtual 463, 3) := by decide +kernel
theorem dX12_span_5 : decode cX12_span 5 = .ok (.ifCond .eq 12, 3) := by decide +kernel
theorem dX12_span_8 : decode cX12_span 8 = .ok (.iload_n 2, 1) := by decide +kernel
theorem dX12_span_9 : decode cX12_span 9 = .ok (.iconst 0, 1) := by decide +kernel
theorem dX12_span_10 : decode cX12_span 10 = .ok (.iconst 1, 1) := by decide +kernel
theorem dX12_span_11 : decode cX12_span 11 = .ok (.invokestatic 71, 3) := by decide +kernel
theorem dX12_span_14 : decode cX12_span 14 = .ok (.ifCond .ne 5, 3) := by decide +kernel
theorem dX12_span_17 : decode cX12_span 17 = .ok (.iconst (-1), 1) := by decide +kernel
theorem dX12_span_18 : decode cX12_span 18 = .ok (.ireturn, 1) := by decide +kernel
theorem dX12_span_19 : decode cX12_span 19 = .ok (.sipush 3296, 3) := by decide +kernel
theorem dX12_span_22 : decode cX12_span 22 = .ok (.bipush 10, 2) := by decide +kernel
theorem dX12_span_24 : decode cX12_span 24 = .ok (.iload_n 1, 1) := by decide +kernel
theorem dX12_span_25 : decode cX12_span 25 = .ok (.imul, 1) := by decide +kernel
theorem dX12_span_26 : decode cX12_span 26 = .ok (.iadd, 1) := by decide +kernel
theorem dX12_span_27 : decode cX12_span 27 = .ok (.istore_n 3, 1) := by decide +kernel
theorem dX12_span_28 : decode cX12_span 28 = .ok (.iconst (-1), 1) := by decide +kernel
theorem dX12_span_29 : decode cX12_span 29 = .ok (.istore 4, 2) := by decide +kernel
theorem dX12_span_31 : decode cX12_span 31 = .ok (.aload_n 0, 1) := by decide +kernel
theorem dX12_span_32 : decode cX12_span 32 = .ok (.iconst 3, 1) := by decide +kernel
theorem dX12_span_33 : decode cX12_span 33 = .ok (.invokevirtual 364, 3) := by decide +kernel
theorem dX12_span_36 : decode cX12_span 36 = .ok (.ineg, 1) := by decide +kernel
theorem dX12_span_37 : decode cX12_span 37 = .ok (.istore 5, 2) := by decide +kernel
theorem dX12_span_39 : decode cX12_span 39 = .ok (.iload 5, 2) := by decide +kernel
theorem dX12_span_41 : decode cX12_span 41 = .ok (.aload_n 0, 1) := by decide +kernel
theorem dX12_span_42 : decode cX12_span 42 = .ok (.iconst 3, 1) := by decide +kernel
theorem dX12_span_43 : decode cX12_span 43 = .ok (.invokevirtual 364, 3) := by decide +kernel
theorem dX12_span_46 : decode cX12_span 46 = .ok (.if_icmp .gt 90, 3) := by decide +kernel
theorem dX12_span_49 : decode cX12_span 49 = .ok (.aload_n 0, 1) := by decide +kernel
theorem dX12_span_50 : decode cX12_span 50 = .ok (.aload_n 0, 1) := by decide +kernel
theorem dX12_span_51 : decode cX12_span 51 = .ok (.getfield 7, 3) := by decide +kernel
theorem dX12_span_54 : decode cX12_span 54 = .ok (.iload_n 3, 1) := by decide +kernel
theorem dX12_span_55 : decode cX12_span 55 = .ok (.iconst 4, 1) := by decide +kernel
theorem dX12_span_56 : decode cX12_span 56 = .ok (.iadd, 1) := by decide +kernel
theorem dX12_span_57 : decode cX12_span 57 = .ok (.iaload, 1) := by decide +kernel
theorem dX12_span_58 : decode cX12_span 58 = .ok (.aload_n 0, 1) := by decide +kernel
theorem dX12_span_59 : decode cX12_span 59 = .ok (.getfield 7, 3) := by decide +kernel
theorem dX12_span_62 : decode cX12_span 62 = .ok (.iload_n 3, 1) := by decide +kernel
theorem dX12_span_63 : decode cX12_span 63 = .ok (.iconst 5, 1) := by decide +kernel
theorem dX12_span_64 : decode cX12_span 64 = .ok (.iadd, 1) := by decide +kernel
theorem dX12_span_65 : decode cX12_span 65 = .ok (.iaload, 1) := by decide +kernel
theorem dX12_span_66 : decode cX12_span 66 = .ok (.iload 5, 2) := by decide +kernel
theorem dX12_span_68 : decode cX12_span 68 = .ok (.iadd, 1) := by decide +kernel
theorem dX12_span_69 : decode cX12_span 69 = .ok (.iconst 0, 1) := by decide +kernel
theorem dX12_span_70 : decode cX12_span 70 = .ok (.bipush 90, 2) := by decide +kernel
theorem dX12_span_72 : decode cX12_span 72 = .ok (.invokestatic 321, 3) := by decide +kernel
theorem dX12_span_75 : decode cX12_span 75 = .ok (.iconst 0, 1) := by decide +kernel
theorem dX12_span_76 : decode cX12_span 76 = .ok (.aload_n 0, 1) := by decide +kernel
theorem dX12_span_77 : decode cX12_span 77 = .ok (.getfield 7, 3) := by decide +kernel
theorem dX12_span_80 : decode cX12_span 80 = .ok (.iload_n 3, 1) := by decide +kernel
theorem dX12_span_81 : decode cX12_span 81 = .ok (.iconst 3, 1) := by decide +kernel
theorem dX12_span_82 : decode cX12_span 82 = .ok (.iadd, 1) := by decide +kernel
theorem dX12_span_83 : decode cX12_span 83 = .ok (.iaload, 1) := by decide +kernel
theorem dX12_span_84 : decode cX12_span 84 = .ok (.iconst 0, 1) := by decide +kernel
theorem dX12_span_85 : decode cX12_span 85 = .ok (.aload_n 0, 1) := by decide +kernel
theorem dX12_span_86 : decode cX12_span 86 = .ok (.iconst 1, 1) := by decide +kernel
theorem dX12_span_87 : decode cX12_span 87 = .ok (.invokevirtual 364, 3) := by decide +kernel
theorem dX12_span_90 : decode cX12_span 90 = .ok (.invokevirtual 389, 3) := by decide +kernel
theorem dX12_span_93 : decode cX12_span 93 = .ok (.iload 4, 2) := by decide +kernel
theorem dX12_span_95 : decode cX12_span 95 = .ok (.iconst (-1), 1) := by decide +kernel
theorem dX12_span_96 : decode cX12_span 96 = .ok (.if_icmp .eq 28, 3) := by decide +kernel
theorem dX12_span_99 : decode cX12_span 99 = .ok (.iload_n 2, 1) := by decide +kernel
theorem dX12_span_100 : decode cX12_span 100 = .ok (.ifCond .ne 15, 3) := by decide +kernel
theorem dX12_span_103 : decode cX12_span 103 = .ok (.aload_n 0, 1) := by decide +kernel
theorem dX12_span_104 : decode cX12_span 104 = .ok (.getfield 341, 3) := by decide +kernel
theorem dX12_span_107 : decode cX12_span 107 = .ok (.iload 4, 2) := by decide +kernel
theorem dX12_span_109 : decode cX12_span 109 = .ok (.if_icmp .ge 21, 3) := by decide +kernel
theorem dX12_span_112 : decode cX12_span 112 = .ok (.goto 12, 3) := by decide +kernel
theorem dX12_span_115 : decode cX12_span 115 = .ok (.aload_n 0, 1) := by decide +kernel
theorem dX12_span_116 : decode cX12_span 116 = .ok (.getfield 341, 3) := by decide +kernel
theorem dX12_span_119 : decode cX12_span 119 = .ok (.iload 4, 2) := by decide +kernel
theorem dX12_span_121 : decode cX12_span 121 = .ok (.if_icmp .le 9, 3) := by decide +kernel
theorem dX12_span_124 : decode cX12_span 124 = .ok (.aload_n 0, 1) := by decide +kernel
theorem dX12_span_125 : decode cX12_span 125 = .ok (.getfield 341, 3) := by decide +kernel
theorem dX12_span_128 : decode cX12_span 128 = .ok (.istore 4, 2) := by decide +kernel
theorem dX12_span_130 : decode cX12_span 130 = .ok (.iinc 5 1, 3) := by decide +kernel
theorem dX12_span_133 : decode cX12_span 133 = .ok (.goto (-94), 3) := by decide +kernel
theorem dX12_span_136 : decode cX12_span 136 = .ok (.iload 4, 2) := by decide +kernel
theorem dX12_span_138 : decode cX12_span 138 = .ok (.ireturn, 1) := by decide +kernel
theorem dX12_path_0 : decode cX12_path 0 = .ok (.aload_n 0, 1) := by decide +kernel
theorem dX12_path_1 : decode cX12_path 1 = .ok (.iload_n 1, 1) := by decide +kernel
theorem dX12_path_2 : decode cX12_path 2 = .ok (.invokevirtual 463, 3) := by decide +kernel
theorem dX12_path_5 : decode cX12_path 5 = .ok (.ifCond .eq 23, 3) := by decide +kernel
theorem dX12_path_8 : decode cX12_path 8 = .ok (.iload_n 2, 1) := by decide +kernel
theorem dX12_path_9 : decode cX12_path 9 = .ok (.iconst 0, 1) := by decide +kernel
theorem dX12_path_10 : decode cX12_path 10 = .ok (.sipush 400, 3) := by decide +kernel
theorem dX12_path_13 : decode cX12_path 13 = .ok (.invokestatic 71, 3) := by decide +kernel
theorem dX12_path_16 : decode cX12_path 16 = .ok (.ifCond .eq 12, 3) := by decide +kernel
theorem dX12_path_19 : decode cX12_path 19 = .ok (.iload_n 3, 1) := by decide +kernel
theorem dX12_path_20 : decode cX12_path 20 = .ok (.iconst 0, 1) := by decide +kernel
theorem dX12_path_21 : decode cX12_path 21 = .ok (.iconst 3, 1) := by decide +kernel
theorem dX12_path_22 : decode cX12_path 22 = .ok (.invokestatic 71, 3) := by decide +kernel
theorem dX12_path_25 : decode cX12_path 25 = .ok (.ifCond .ne 7, 3) := by decide +kernel
theorem dX12_path_28 : decode cX12_path 28 = .ok (.sipush (-10000), 3) := by decide +kernel
theorem dX12_path_31 : decode cX12_path 31 = .ok (.ireturn, 1) := by decide +kernel
theorem dX12_path_32 : decode cX12_path 32 = .ok (.sipush 3296, 3) := by decide +kernel
theorem dX12_path_35 : decode cX12_path 35 = .ok (.bipush 10, 2) := by decide +kernel
theorem dX12_path_37 : decode cX12_path 37 = .ok (.iload_n 1, 1) := by decide +kernel
theorem dX12_path_38 : decode cX12_path 38 = .ok (.imul, 1) := by decide +kernel
theorem dX12_path_39 : decode cX12_path 39 = .ok (.iadd, 1) := by decide +kernel
theorem dX12_path_40 : decode cX12_path 40 = .ok (.istore 4, 2) := by decide +kernel
theorem dX12_path_42 : decode cX12_path 42 = .ok (.aload_n 0, 1) := by decide +kernel
theorem dX12_path_43 : decode cX12_path 43 = .ok (.aload_n 0, 1) := by decide +kernel
theorem dX12_path_44 : decode cX12_path 44 = .ok (.getfield 7, 3) := by decide +kernel
theorem dX12_path_47 : decode cX12_path 47 = .ok (.iload 4, 2) := by decide +kernel
theorem dX12_path_49 : decode cX12_path 49 = .ok (.iconst 4, 1) := by decide +kernel
theorem dX12_path_50 : decode cX12_path 50 = .ok (.iadd, 1) := by decide +kernel
theorem dX12_path_51 : decode cX12_path 51 = .ok (.iaload, 1) := by decide +kernel
theorem dX12_path_52 : decode cX12_path 52 = .ok (.aload_n 0, 1) := by decide +kernel
theorem dX12_path_53 : decode cX12_path 53 = .ok (.getfield 7, 3) := by decide +kernel
theorem dX12_path_56 : decode cX12_path 56 = .ok (.iload 4, 2) := by decide +kernel
theorem dX12_path_58 : decode cX12_path 58 = .ok (.iconst 5, 1) := by decide +kernel
theorem dX12_path_59 : decode cX12_path 59 = .ok (.iadd, 1) := by decide +kernel
theorem dX12_path_60 : decode cX12_path 60 = .ok (.iaload, 1) := by decide +kernel
theorem dX12_path_61 : decode cX12_path 61 = .ok (.iconst 0, 1) := by decide +kernel
theorem dX12_path_62 : decode cX12_path 62 = .ok (.invokevirtual 358, 3) := by decide +kernel
theorem dX12_path_65 : decode cX12_path 65 = .ok (.aload_n 0, 1) := by decide +kernel
theorem dX12_path_66 : decode cX12_path 66 = .ok (.getfield 352, 3) := by decide +kernel
theorem dX12_path_69 : decode cX12_path 69 = .ok (.iload_n 2, 1) := by decide +kernel
theorem dX12_path_70 : decode cX12_path 70 = .ok (.if_icmp .ge 41, 3) := by decide +kernel
theorem dX12_path_73 : decode cX12_path 73 = .ok (.aload_n 0, 1) := by decide +kernel
theorem dX12_path_74 : decode cX12_path 74 = .ok (.getfield 339, 3) := by decide +kernel
theorem dX12_path_77 : decode cX12_path 77 = .ok (.ifCond .le 34, 3) := by decide +kernel
theorem dX12_path_80 : decode cX12_path 80 = .ok (.aload_n 0, 1) := by decide +kernel
theorem dX12_path_81 : decode cX12_path 81 = .ok (.aload_n 0, 1) := by decide +kernel
theorem dX12_path_82 : decode cX12_path 82 = .ok (.getfield 7, 3) := by decide +kernel
theorem dX12_path_85 : decode cX12_path 85 = .ok (.iload 4, 2) := by decide +kernel
theorem dX12_path_87 : decode cX12_path 87 = .ok (.iconst 3, 1) := by decide +kernel
theorem dX12_path_88 : decode cX12_path 88 = .ok (.iadd, 1) := by decide +kernel
theorem dX12_path_89 : decode cX12_path 89 = .ok (.iaload, 1) := by decide +kernel
theorem dX12_path_90 : decode cX12_path 90 = .ok (.aload_n 0, 1) := by decide +kernel
theorem dX12_path_91 : decode cX12_path 91 = .ok (.getfield 7, 3) := by decide +kernel
theorem dX12_path_94 : decode cX12_path 94 = .ok (.iload 4, 2) := by decide +kernel
theorem dX12_path_96 : decode cX12_path 96 = .ok (.bipush 6, 2) := by decide +kernel
theorem dX12_path_98 : decode cX12_path 98 = .ok (.iadd, 1) := by decide +kernel
theorem dX12_path_99 : decode cX12_path 99 = .ok (.iaload, 1) := by decide +kernel
theorem dX12_path_100 : decode cX12_path 100 = .ok (.aload_n 0, 1) := by decide +kernel
theorem dX12_path_101 : decode cX12_path 101 = .ok (.iconst 1, 1) := by decide +kernel
theorem dX12_path_102 : decode cX12_path 102 = .ok (.invokevirtual 364, 3) := by decide +kernel
theorem dX12_path_105 : decode cX12_path 105 = .ok (.invokevirtual 361, 3) := by decide +kernel
theorem dX12_path_108 : decode cX12_path 108 = .ok (.goto (-43), 3) := by decide +kernel
theorem dX12_path_111 : decode cX12_path 111 = .ok (.iload_n 3, 1) := by decide +kernel
theorem dX12_path_112 : decode cX12_path 112 = .ok (.ifCond .ne 10, 3) := by decide +kernel
theorem dX12_path_115 : decode cX12_path 115 = .ok (.aload_n 0, 1) := by decide +kernel
theorem dX12_path_116 : decode cX12_path 116 = .ok (.getfield 341, 3) := by decide +kernel
theorem dX12_path_119 : decode cX12_path 119 = .ok (.goto 31, 3) := by decide +kernel
theorem dX12_path_122 : decode cX12_path 122 = .ok (.iload_n 3, 1) := by decide +kernel
theorem dX12_path_123 : decode cX12_path 123 = .ok (.iconst 1, 1) := by decide +kernel
theorem dX12_path_124 : decode cX12_path 124 = .ok (.if_icmp .ne 10, 3) := by decide +kernel
theorem dX12_path_127 : decode cX12_path 127 = .ok (.aload_n 0, 1) := by decide +kernel
theorem dX12_path_128 : decode cX12_path 128 = .ok (.getfield 339, 3) := by decide +kernel
theorem dX12_path_131 : decode cX12_path 131 = .ok (.goto 19, 3) := by decide +kernel
theorem dX12_path_134 : decode cX12_path 134 = .ok (.iload_n 3, 1) := by decide +kernel
theorem dX12_path_135 : decode cX12_path 135 = .ok (.iconst 2, 1) := by decide +kernel
theorem dX12_path_136 : decode cX12_path 136 = .ok (.if_icmp .ne 10, 3) := by decide +kernel
theorem dX12_path_139 : decode cX12_path 139 = .ok (.aload_n 0, 1) := by decide +kernel
theorem dX12_path_140 : decode cX12_path 140 = .ok (.getfield 344, 3) := by decide +kernel
theorem dX12_path_143 : decode cX12_path 143 = .ok (.goto 7, 3) := by decide +kernel
theorem dX12_path_146 : decode cX12_path 146 = .ok (.aload_n 0, 1) := by decide +kernel
theorem dX12_path_147 : decode cX12_path 147 = .ok (.getfield 350, 3) := by decide +kernel
theorem dX12_path_150 : decode cX12_path 150 = .ok (.ireturn, 1) := by decide +kernel
theorem dX12_record_0 : decode cX12_record 0 = .ok (.aload_n 0, 1) := by decide +kernel
theorem dX12_record_1 : decode cX12_record 1 = .ok (.iload_n 1, 1) := by decide +kernel
theorem dX12_record_2 : decode cX12_record 2 = .ok (.invokevirtual 401, 3) := by decide +kernel
theorem dX12_record_5 : decode cX12_record 5 = .ok (.ifCond .ne 5, 3) := by decide +kernel
theorem dX12_record_8 : decode cX12_record 8 = .ok (.iconst (-1), 1) := by decide +kernel
theorem dX12_record_9 : decode cX12_record 9 = .ok (.ireturn, 1) := by decide +kernel
theorem dX12_record_10 : decode cX12_record 10 = .ok (.iconst (-1), 1) := by decide +kernel
theorem dX12_record_11 : decode cX12_record 11 = .ok (.istore_n 2, 1) := by decide +kernel
theorem dX12_record_12 : decode cX12_record 12 = .ok (.iconst 0, 1) := by decide +kernel
theorem dX12_record_13 : decode cX12_record 13 = .ok (.istore_n 3, 1) := by decide +kernel
theorem dX12_record_14 : decode cX12_record 14 = .ok (.iload_n 3, 1) := by decide +kernel
theorem dX12_record_15 : decode cX12_record 15 = .ok (.aload_n 0, 1) := by decide +kernel
theorem dX12_record_16 : decode cX12_record 16 = .ok (.getfield 7, 3) := by decide +kernel
theorem dX12_record_19 : decode cX12_record 19 = .ok (.iconst 2, 1) := by decide +kernel
theorem dX12_record_20 : decode cX12_record 20 = .ok (.iaload, 1) := by decide +kernel
theorem dX12_record_21 : decode cX12_record 21 = .ok (.if_icmp .ge 81, 3) := by decide +kernel
theorem dX12_record_24 : decode cX12_record 24 = .ok (.sipush 3296, 3) := by decide +kernel
theorem dX12_record_27 : decode cX12_record 27 = .ok (.bipush 10, 2) := by decide +kernel
theorem dX12_record_29 : decode cX12_record 29 = .ok (.iload_n 3, 1) := by decide +kernel
theorem dX12_record_30 : decode cX12_record 30 = .ok (.imul, 1) := by decide +kernel
theorem dX12_record_31 : decode cX12_record 31 = .ok (.iadd, 1) := by decide +kernel
theorem dX12_record_32 : decode cX12_record 32 = .ok (.istore 4, 2) := by decide +kernel
theorem dX12_record_34 : decode cX12_record 34 = .ok (.aload_n 0, 1) := by decide +kernel
theorem dX12_record_35 : decode cX12_record 35 = .ok (.getfield 7, 3) := by decide +kernel
theorem dX12_record_38 : decode cX12_record 38 = .ok (.iload 4, 2) := by decide +kernel
theorem dX12_record_40 : decode cX12_record 40 = .ok (.iconst 3, 1) := by decide +kernel
theorem dX12_record_41 : decode cX12_record 41 = .ok (.iadd, 1) := by decide +kernel
theorem dX12_record_42 : decode cX12_record 42 = .ok (.iaload, 1) := by decide +kernel
theorem dX12_record_43 : decode cX12_record 43 = .ok (.iload_n 1, 1) := by decide +kernel
theorem dX12_record_44 : decode cX12_record 44 = .ok (.if_icmp .ne 52, 3) := by decide +kernel
theorem dX12_record_47 : decode cX12_record 47 = .ok (.aload_n 0, 1) := by decide +kernel
theorem dX12_record_48 : decode cX12_record 48 = .ok (.getfield 7, 3) := by decide +kernel
theorem dX12_record_51 : decode cX12_record 51 = .ok (.iload 4, 2) := by decide +kernel
theorem dX12_record_53 : decode cX12_record 53 = .ok (.bipush 8, 2) := by decide +kernel
theorem dX12_record_55 : decode cX12_record 55 = .ok (.iadd, 1) := by decide +kernel
theorem dX12_record_56 : decode cX12_record 56 = .ok (.iaload, 1) := by decide +kernel
theorem dX12_record_57 : decode cX12_record 57 = .ok (.ifCond .ne 39, 3) := by decide +kernel
theorem dX12_record_60 : decode cX12_record 60 = .ok (.iload_n 2, 1) := by decide +kernel
theorem dX12_record_61 : decode cX12_record 61 = .ok (.iconst (-1), 1) := by decide +kernel
theorem dX12_record_62 : decode cX12_record 62 = .ok (.if_icmp .eq 32, 3) := by decide +kernel
theorem dX12_record_65 : decode cX12_record 65 = .ok (.aload_n 0, 1) := by decide +kernel
theorem dX12_record_66 : decode cX12_record 66 = .ok (.getfield 7, 3) := by decide +kernel
theorem dX12_record_69 : decode cX12_record 69 = .ok (.iload 4, 2) := by decide +kernel
theorem dX12_record_71 : decode cX12_record 71 = .ok (.bipush 7, 2) := by decide +kernel
theorem dX12_record_73 : decode cX12_record 73 = .ok (.iadd, 1) := by decide +kernel
theorem dX12_record_74 : decode cX12_record 74 = .ok (.iaload, 1) := by decide +kernel
theorem dX12_record_75 : decode cX12_record 75 = .ok (.aload_n 0, 1) := by decide +kernel
theorem dX12_record_76 : decode cX12_record 76 = .ok (.getfield 7, 3) := by decide +kernel
theorem dX12_record_79 : decode cX12_record 79 = .ok (.sipush 3296, 3) := by decide +kernel
theorem dX12_record_82 : decode cX12_record 82 = .ok (.bipush 10, 2) := by decide +kernel
theorem dX12_record_84 : decode cX12_record 84 = .ok (.iload_n 2, 1) := by decide +kernel
theorem dX12_record_85 : decode cX12_record 85 = .ok (.imul, 1) := by decide +kernel
theorem dX12_record_86 : decode cX12_record 86 = .ok (.iadd, 1) := by decide +kernel
theorem dX12_record_87 : decode cX12_record 87 = .ok (.bipush 7, 2) := by decide +kernel
theorem dX12_record_89 : decode cX12_record 89 = .ok (.iadd, 1) := by decide +kernel
theorem dX12_record_90 : decode cX12_record 90 = .ok (.iaload, 1) := by decide +kernel
theorem dX12_record_91 : decode cX12_record 91 = .ok (.if_icmp .le 5, 3) := by decide +kernel
theorem dX12_record_94 : decode cX12_record 94 = .ok (.iload_n 3, 1) := by decide +kernel
theorem dX12_record_95 : decode cX12_record 95 = .ok (.istore_n 2, 1) := by decide +kernel
theorem dX12_record_96 : decode cX12_record 96 = .ok (.iinc 3 1, 3) := by decide +kernel
theorem dX12_record_99 : decode cX12_record 99 = .ok (.goto (-85), 3) := by decide +kernel
theorem dX12_record_102 : decode cX12_record 102 = .ok (.iload_n 2, 1) := by decide +kernel
theorem dX12_record_103 : decode cX12_record 103 = .ok (.ireturn, 1) := by decide +kernel
theorem dX12_needed_0 : decode cX12_needed 0 = .ok (.iload_n 1, 1) := by decide +kernel
theorem dX12_needed_1 : decode cX12_needed 1 = .ok (.iconst 0, 1) := by decide +kernel
theorem dX12_needed_2 : decode cX12_needed 2 = .ok (.bipush 60, 2) := by decide +kernel
theorem dX12_needed_4 : decode cX12_needed 4 = .ok (.invokestatic 71, 3) := by decide +kernel
theorem dX12_needed_7 : decode cX12_needed 7 = .ok (.ifCond .eq 18, 3) := by decide +kernel
theorem dX12_needed_10 : decode cX12_needed 10 = .ok (.aload_n 0, 1) := by decide +kernel
theorem dX12_needed_11 : decode cX12_needed 11 = .ok (.iload_n 2, 1) := by decide +kernel
theorem dX12_needed_12 : decode cX12_needed 12 = .ok (.invokevirtual 401, 3) := by decide +kernel
theorem dX12_needed_15 : decode cX12_needed 15 = .ok (.ifCond .eq 10, 3) := by decide +kernel
theorem dX12_needed_18 : decode cX12_needed 18 = .ok (.iload_n 3, 1) := by decide +kernel
theorem dX12_needed_19 : decode cX12_needed 19 = .ok (.invokestatic 443, 3) := by decide +kernel
theorem dX12_needed_22 : decode cX12_needed 22 = .ok (.ifCond .ne 5, 3) := by decide +kernel
theorem dX12_needed_25 : decode cX12_needed 25 = .ok (.iconst (-1), 1) := by decide +kernel
theorem dX12_needed_26 : decode cX12_needed 26 = .ok (.ireturn, 1) := by decide +kernel
theorem dX12_needed_27 : decode cX12_needed 27 = .ok (.iconst 0, 1) := by decide +kernel
theorem dX12_needed_28 : decode cX12_needed 28 = .ok (.istore 5, 2) := by decide +kernel
theorem dX12_needed_30 : decode cX12_needed 30 = .ok (.iload 5, 2) := by decide +kernel
theorem dX12_needed_32 : decode cX12_needed 32 = .ok (.bipush 100, 2) := by decide +kernel
theorem dX12_needed_34 : decode cX12_needed 34 = .ok (.if_icmp .ge 36, 3) := by decide +kernel
theorem dX12_needed_37 : decode cX12_needed 37 = .ok (.aload_n 0, 1) := by decide +kernel
theorem dX12_needed_38 : decode cX12_needed 38 = .ok (.iload 5, 2) := by decide +kernel
theorem dX12_needed_40 : decode cX12_needed 40 = .ok (.iload_n 1, 1) := by decide +kernel
theorem dX12_needed_41 : decode cX12_needed 41 = .ok (.iload_n 2, 1) := by decide +kernel
theorem dX12_needed_42 : decode cX12_needed 42 = .ok (.iload_n 3, 1) := by decide +kernel
theorem dX12_needed_43 : decode cX12_needed 43 = .ok (.invokevirtual 434, 3) := by decide +kernel
theorem dX12_needed_46 : decode cX12_needed 46 = .ok (.istore 6, 2) := by decide +kernel
theorem dX12_needed_48 : decode cX12_needed 48 = .ok (.iload 6, 2) := by decide +kernel
theorem dX12_needed_50 : decode cX12_needed 50 = .ok (.iconst (-1), 1) := by decide +kernel
theorem dX12_needed_51 : decode cX12_needed 51 = .ok (.if_icmp .eq 13, 3) := by decide +kernel
theorem dX12_needed_54 : decode cX12_needed 54 = .ok (.iload 6, 2) := by decide +kernel
theorem dX12_needed_56 : decode cX12_needed 56 = .ok (.iload 4, 2) := by decide +kernel
theorem dX12_needed_58 : decode cX12_needed 58 = .ok (.if_icmp .lt 6, 3) := by decide +kernel
theorem dX12_needed_61 : decode cX12_needed 61 = .ok (.iload 5, 2) := by decide +kernel
theorem dX12_needed_63 : decode cX12_needed 63 = .ok (.ireturn, 1) := by decide +kernel
theorem dX12_needed_64 : decode cX12_needed 64 = .ok (.iinc 5 1, 3) := by decide +kernel
theorem dX12_needed_67 : decode cX12_needed 67 = .ok (.goto (-37), 3) := by decide +kernel
theorem dX12_needed_70 : decode cX12_needed 70 = .ok (.iconst (-1), 1) := by decide +kernel
theorem dX12_needed_71 : decode cX12_needed 71 = .ok (.ireturn, 1) := by decide +kernel
theorem dX12_rests_0 : decode cX12_rests 0 = .ok (.aload_n 0, 1) := by decide +kernel
theorem dX12_rests_1 : decode cX12_rests 1 = .ok (.iload_n 1, 1) := by decide +kernel
theorem dX12_rests_2 : decode cX12_rests 2 = .ok (.invokevirtual 87, 3) := by decide +kernel
theorem dX12_rests_5 : decode cX12_rests 5 = .ok (.ifCond .eq 14, 3) := by decide +kernel
theorem dX12_rests_8 : decode cX12_rests 8 = .ok (.iload_n 2, 1) := by decide +kernel
theorem dX12_rests_9 : decode cX12_rests 9 = .ok (.iconst 0, 1) := by decide +kernel
theorem dX12_rests_10 : decode cX12_rests 10 = .ok (.sipush 1000, 3) := by decide +kernel
theorem dX12_rests_13 : decode cX12_rests 13 = .ok (.invokestatic 71, 3) := by decide +kernel
theorem dX12_rests_16 : decode cX12_rests 16 = .ok (.ifCond .ne 5, 3) := by decide +kernel
theorem dX12_rests_19 : decode cX12_rests 19 = .ok (.iconst (-1), 1) := by decide +kernel
theorem dX12_rests_20 : decode cX12_rests 20 = .ok (.ireturn, 1) := by decide +kernel
theorem dX12_rests_21 : decode cX12_rests 21 = .ok (.aload_n 0, 1) := by decide +kernel
theorem dX12_rests_22 : decode cX12_rests 22 = .ok (.iload_n 1, 1) := by decide +kernel
theorem dX12_rests_23 : decode cX12_rests 23 = .ok (.iconst 1, 1) := by decide +kernel
theorem dX12_rests_24 : decode cX12_rests 24 = .ok (.invokevirtual 324, 3) := by decide +kernel
theorem dX12_rests_27 : decode cX12_rests 27 = .ok (.istore_n 3, 1) := by decide +kernel
theorem dX12_rests_28 : decode cX12_rests 28 = .ok (.iconst 0, 1) := by decide +kernel
theorem dX12_rests_29 : decode cX12_rests 29 = .ok (.istore 4, 2) := by decide +kernel
theorem dX12_rests_31 : decode cX12_rests 31 = .ok (.iload_n 3, 1) := by decide +kernel
theorem dX12_rests_32 : decode cX12_rests 32 = .ok (.iload_n 2, 1) := by decide +kernel
theorem dX12_rests_33 : decode cX12_rests 33 = .ok (.if_icmp .le 50, 3) := by decide +kernel
theorem dX12_rests_36 : decode cX12_rests 36 = .ok (.iload 4, 2) := by decide +kernel
theorem dX12_rests_38 : decode cX12_rests 38 = .ok (.sipush 400, 3) := by decide +kernel
theorem dX12_rests_41 : decode cX12_rests 41 = .ok (.if_icmp .ge 42, 3) := by decide +kernel
theorem dX12_rests_44 : decode cX12_rests 44 = .ok (.aload_n 0, 1) := by decide +kernel
theorem dX12_rests_45 : decode cX12_rests 45 = .ok (.iload_n 1, 1) := by decide +kernel
theorem dX12_rests_46 : decode cX12_rests 46 = .ok (.iconst 0, 1) := by decide +kernel
theorem dX12_rests_47 : decode cX12_rests 47 = .ok (.iconst 0, 1) := by decide +kernel
theorem dX12_rests_48 : decode cX12_rests 48 = .ok (.iconst 0, 1) := by decide +kernel
theorem dX12_rests_49 : decode cX12_rests 49 = .ok (.iload_n 3, 1) := by decide +kernel
theorem dX12_rests_50 : decode cX12_rests 50 = .ok (.aload_n 0, 1) := by decide +kernel
theorem dX12_rests_51 : decode cX12_rests 51 = .ok (.iload_n 1, 1) := by decide +kernel
theorem dX12_rests_52 : decode cX12_rests 52 = .ok (.iconst 3, 1) := by decide +kernel
theorem dX12_rests_53 : decode cX12_rests 53 = .ok (.invokevirtual 324, 3) := by decide +kernel
theorem dX12_rests_56 : decode cX12_rests 56 = .ok (.invokevirtual 376, 3) := by decide +kernel
theorem dX12_rests_59 : decode cX12_rests 59 = .ok (.iconst 0, 1) := by decide +kernel
theorem dX12_rests_60 : decode cX12_rests 60 = .ok (.iload_n 3, 1) := by decide +kernel
theorem dX12_rests_61 : decode cX12_rests 61 = .ok (.aload_n 0, 1) := by decide +kernel
theorem dX12_rests_62 : decode cX12_rests 62 = .ok (.iconst 1, 1) := by decide +kernel
theorem dX12_rests_63 : decode cX12_rests 63 = .ok (.bipush 26, 2) := by decide +kernel
theorem dX12_rests_65 : decode cX12_rests 65 = .ok (.iconst 0, 1) := by decide +kernel
theorem dX12_rests_66 : decode cX12_rests 66 = .ok (.sipush 1000, 3) := by decide +kernel
theorem dX12_rests_69 : decode cX12_rests 69 = .ok (.invokevirtual 327, 3) := by decide +kernel
theorem dX12_rests_72 : decode cX12_rests 72 = .ok (.isub, 1) := by decide +kernel
theorem dX12_rests_73 : decode cX12_rests 73 = .ok (.invokestatic 68, 3) := by decide +kernel
theorem dX12_rests_76 : decode cX12_rests 76 = .ok (.istore_n 3, 1) := by decide +kernel
theorem dX12_rests_77 : decode cX12_rests 77 = .ok (.iinc 4 1, 3) := by decide +kernel
theorem dX12_rests_80 : decode cX12_rests 80 = .ok (.goto (-49), 3) := by decide +kernel
theorem dX12_rests_83 : decode cX12_rests 83 = .ok (.iload_n 3, 1) := by decide +kernel
theorem dX12_rests_84 : decode cX12_rests 84 = .ok (.iload_n 2, 1) := by decide +kernel
theorem dX12_rests_85 : decode cX12_rests 85 = .ok (.if_icmp .le 7, 3) := by decide +kernel
theorem dX12_rests_88 : decode cX12_rests 88 = .ok (.iconst (-1), 1) := by decide +kernel
theorem dX12_rests_89 : decode cX12_rests 89 = .ok (.goto 5, 3) := by decide +kernel
theorem dX12_rests_92 : decode cX12_rests 92 = .ok (.iload 4, 2) := by decide +kernel
theorem dX12_rests_94 : decode cX12_rests 94 = .ok (.ireturn, 1) := by decide +kernel
theorem dX12_place_0 : decode cX12_place 0 = .ok (.iconst 0, 1) := by decide +kernel
theorem dX12_place_1 : decode cX12_place 1 = .ok (.istore_n 2, 1) := by decide +kernel
theorem dX12_place_2 : decode cX12_place 2 = .ok (.iload_n 2, 1) := by decide +kernel
theorem dX12_place_3 : decode cX12_place 3 = .ok (.aload_n 0, 1) := by decide +kernel
theorem dX12_place_4 : decode cX12_place 4 = .ok (.getfield 7, 3) := by decide +kernel
theorem dX12_place_7 : decode cX12_place 7 = .ok (.bipush 68, 2) := by decide +kernel
theorem dX12_place_9 : decode cX12_place 9 = .ok (.iaload, 1) := by decide +kernel
theorem dX12_place_10 : decode cX12_place 10 = .ok (.if_icmp .ge 85, 3) := by decide +kernel
theorem dX12_place_13 : decode cX12_place 13 = .ok (.iconst 0, 1) := by decide +kernel
theorem dX12_place_14 : decode cX12_place 14 = .ok (.istore_n 3, 1) := by decide +kernel
theorem dX12_place_15 : decode cX12_place 15 = .ok (.iconst 0, 1) := by decide +kernel
theorem dX12_place_16 : decode cX12_place 16 = .ok (.istore 4, 2) := by decide +kernel
theorem dX12_place_18 : decode cX12_place 18 = .ok (.iload 4, 2) := by decide +kernel
theorem dX12_place_20 : decode cX12_place 20 = .ok (.aload_n 0, 1) := by decide +kernel
theorem dX12_place_21 : decode cX12_place 21 = .ok (.getfield 7, 3) := by decide +kernel
theorem dX12_place_24 : decode cX12_place 24 = .ok (.bipush 68, 2) := by decide +kernel
theorem dX12_place_26 : decode cX12_place 26 = .ok (.iaload, 1) := by decide +kernel
theorem dX12_place_27 : decode cX12_place 27 = .ok (.if_icmp .ge 55, 3) := by decide +kernel
theorem dX12_place_30 : decode cX12_place 30 = .ok (.iload_n 3, 1) := by decide +kernel
theorem dX12_place_31 : decode cX12_place 31 = .ok (.aload_n 0, 1) := by decide +kernel
theorem dX12_place_32 : decode cX12_place 32 = .ok (.iload 4, 2) := by decide +kernel
theorem dX12_place_34 : decode cX12_place 34 = .ok (.iconst 2, 1) := by decide +kernel
theorem dX12_place_35 : decode cX12_place 35 = .ok (.invokevirtual 324, 3) := by decide +kernel
theorem dX12_place_38 : decode cX12_place 38 = .ok (.aload_n 0, 1) := by decide +kernel
theorem dX12_place_39 : decode cX12_place 39 = .ok (.iload_n 2, 1) := by decide +kernel
theorem dX12_place_40 : decode cX12_place 40 = .ok (.iconst 2, 1) := by decide +kernel
theorem dX12_place_41 : decode cX12_place 41 = .ok (.invokevirtual 324, 3) := by decide +kernel
theorem dX12_place_44 : decode cX12_place 44 = .ok (.if_icmp .gt 25, 3) := by decide +kernel
theorem dX12_place_47 : decode cX12_place 47 = .ok (.aload_n 0, 1) := by decide +kernel
theorem dX12_place_48 : decode cX12_place 48 = .ok (.iload 4, 2) := by decide +kernel
theorem dX12_place_50 : decode cX12_place 50 = .ok (.iconst 2, 1) := by decide +kernel
theorem dX12_place_51 : decode cX12_place 51 = .ok (.invokevirtual 324, 3) := by decide +kernel
theorem dX12_place_54 : decode cX12_place 54 = .ok (.aload_n 0, 1) := by decide +kernel
theorem dX12_place_55 : decode cX12_place 55 = .ok (.iload_n 2, 1) := by decide +kernel
theorem dX12_place_56 : decode cX12_place 56 = .ok (.iconst 2, 1) := by decide +kernel
theorem dX12_place_57 : decode cX12_place 57 = .ok (.invokevirtual 324, 3) := by decide +kernel
theorem dX12_place_60 : decode cX12_place 60 = .ok (.if_icmp .ne 13, 3) := by decide +kernel
theorem dX12_place_63 : decode cX12_place 63 = .ok (.iload 4, 2) := by decide +kernel
theorem dX12_place_65 : decode cX12_place 65 = .ok (.iload_n 2, 1) := by decide +kernel
theorem dX12_place_66 : decode cX12_place 66 = .ok (.if_icmp .ge 7, 3) := by decide +kernel
theorem dX12_place_69 : decode cX12_place 69 = .ok (.iconst 1, 1) := by decide +kernel
theorem dX12_place_70 : decode cX12_place 70 = .ok (.goto 4, 3) := by decide +kernel
theorem dX12_place_73 : decode cX12_place 73 = .ok (.iconst 0, 1) := by decide +kernel
theorem dX12_place_74 : decode cX12_place 74 = .ok (.iadd, 1) := by decide +kernel
theorem dX12_place_75 : decode cX12_place 75 = .ok (.istore_n 3, 1) := by decide +kernel
theorem dX12_place_76 : decode cX12_place 76 = .ok (.iinc 4 1, 3) := by decide +kernel
theorem dX12_place_79 : decode cX12_place 79 = .ok (.goto (-61), 3) := by decide +kernel
theorem dX12_place_82 : decode cX12_place 82 = .ok (.iload_n 3, 1) := by decide +kernel
theorem dX12_place_83 : decode cX12_place 83 = .ok (.iload_n 1, 1) := by decide +kernel
theorem dX12_place_84 : decode cX12_place 84 = .ok (.if_icmp .ne 5, 3) := by decide +kernel
theorem dX12_place_87 : decode cX12_place 87 = .ok (.iload_n 2, 1) := by decide +kernel
theorem dX12_place_88 : decode cX12_place 88 = .ok (.ireturn, 1) := by decide +kernel
theorem dX12_place_89 : decode cX12_place 89 = .ok (.iinc 2 1, 3) := by decide +kernel
theorem dX12_place_92 : decode cX12_place 92 = .ok (.goto (-90), 3) := by decide +kernel
theorem dX12_place_95 : decode cX12_place 95 = .ok (.iconst (-1), 1) := by decide +kernel
theorem dX12_place_96 : decode cX12_place 96 = .ok (.ireturn, 1) := by decide +kernel
theorem dX12_after_0 : decode cX12_after 0 = .ok (.aload_n 0, 1) := by decide +kernel
theorem dX12_after_1 : decode cX12_after 1 = .ok (.iload_n 1, 1) := by decide +kernel
theorem dX12_after_2 : decode cX12_after 2 = .ok (.invokevirtual 87, 3) := by decide +kernel
theorem dX12_after_5 : decode cX12_after 5 = .ok (.ifCond .eq 13, 3) := by decide +kernel
theorem dX12_after_8 : decode cX12_after 8 = .ok (.iload_n 2, 1) := by decide +kernel
theorem dX12_after_9 : decode cX12_after 9 = .ok (.iconst 0, 1) := by decide +kernel
theorem dX12_after_10 : decode cX12_after 10 = .ok (.bipush 6, 2) := by decide +kernel
theorem dX12_after_12 : decode cX12_after 12 = .ok (.invokestatic 71, 3) := by decide +kernel
theorem dX12_after_15 : decode cX12_after 15 = .ok (.ifCond .ne 5, 3) := by decide +kernel
theorem dX12_after_18 : decode cX12_after 18 = .ok (.iconst (-1), 1) := by decide +kernel
theorem dX12_after_19 : decode cX12_after 19 = .ok (.ireturn, 1) := by decide +kernel
theorem dX12_after_20 : decode cX12_after 20 = .ok (.iconst 0, 1) := by decide +kernel
theorem dX12_after_21 : decode cX12_after 21 = .ok (.istore_n 3, 1) := by decide +kernel
theorem dX12_after_22 : decode cX12_after 22 = .ok (.iconst 0, 1) := by decide +kernel
theorem dX12_after_23 : decode cX12_after 23 = .ok (.istore 4, 2) := by decide +kernel
theorem dX12_after_25 : decode cX12_after 25 = .ok (.iload 4, 2) := by decide +kernel
theorem dX12_after_27 : decode cX12_after 27 = .ok (.aload_n 0, 1) := by decide +kernel
theorem dX12_after_28 : decode cX12_after 28 = .ok (.getfield 7, 3) := by decide +kernel
theorem dX12_after_31 : decode cX12_after 31 = .ok (.iconst 2, 1) := by decide +kernel
theorem dX12_after_32 : decode cX12_after 32 = .ok (.iaload, 1) := by decide +kernel
theorem dX12_after_33 : decode cX12_after 33 = .ok (.if_icmp .ge 91, 3) := by decide +kernel
theorem dX12_after_36 : decode cX12_after 36 = .ok (.sipush 3296, 3) := by decide +kernel
theorem dX12_after_39 : decode cX12_after 39 = .ok (.bipush 10, 2) := by decide +kernel
theorem dX12_after_41 : decode cX12_after 41 = .ok (.iload 4, 2) := by decide +kernel
theorem dX12_after_43 : decode cX12_after 43 = .ok (.imul, 1) := by decide +kernel
theorem dX12_after_44 : decode cX12_after 44 = .ok (.iadd, 1) := by decide +kernel
theorem dX12_after_45 : decode cX12_after 45 = .ok (.istore 5, 2) := by decide +kernel
theorem dX12_after_47 : decode cX12_after 47 = .ok (.aload_n 0, 1) := by decide +kernel
theorem dX12_after_48 : decode cX12_after 48 = .ok (.getfield 7, 3) := by decide +kernel
theorem dX12_after_51 : decode cX12_after 51 = .ok (.iload 5, 2) := by decide +kernel
theorem dX12_after_53 : decode cX12_after 53 = .ok (.iaload, 1) := by decide +kernel
theorem dX12_after_54 : decode cX12_after 54 = .ok (.aload_n 0, 1) := by decide +kernel
theorem dX12_after_55 : decode cX12_after 55 = .ok (.getfield 7, 3) := by decide +kernel
theorem dX12_after_58 : decode cX12_after 58 = .ok (.bipush 66, 2) := by decide +kernel
theorem dX12_after_60 : decode cX12_after 60 = .ok (.iaload, 1) := by decide +kernel
theorem dX12_after_61 : decode cX12_after 61 = .ok (.if_icmp .ne 57, 3) := by decide +kernel
theorem dX12_after_64 : decode cX12_after 64 = .ok (.aload_n 0, 1) := by decide +kernel
theorem dX12_after_65 : decode cX12_after 65 = .ok (.getfield 7, 3) := by decide +kernel
theorem dX12_after_68 : decode cX12_after 68 = .ok (.iload 5, 2) := by decide +kernel
theorem dX12_after_70 : decode cX12_after 70 = .ok (.iconst 2, 1) := by decide +kernel
theorem dX12_after_71 : decode cX12_after 71 = .ok (.iadd, 1) := by decide +kernel
theorem dX12_after_72 : decode cX12_after 72 = .ok (.iaload, 1) := by decide +kernel
theorem dX12_after_73 : decode cX12_after 73 = .ok (.iload_n 1, 1) := by decide +kernel
theorem dX12_after_74 : decode cX12_after 74 = .ok (.if_icmp .ne 44, 3) := by decide +kernel
theorem dX12_after_77 : decode cX12_after 77 = .ok (.aload_n 0, 1) := by decide +kernel
theorem dX12_after_78 : decode cX12_after 78 = .ok (.getfield 7, 3) := by decide +kernel
theorem dX12_after_81 : decode cX12_after 81 = .ok (.iload 5, 2) := by decide +kernel
theorem dX12_after_83 : decode cX12_after 83 = .ok (.bipush 8, 2) := by decide +kernel
theorem dX12_after_85 : decode cX12_after 85 = .ok (.iadd, 1) := by decide +kernel
theorem dX12_after_86 : decode cX12_after 86 = .ok (.iaload, 1) := by decide +kernel
theorem dX12_after_87 : decode cX12_after 87 = .ok (.ifCond .ne 31, 3) := by decide +kernel
theorem dX12_after_90 : decode cX12_after 90 = .ok (.aload_n 0, 1) := by decide +kernel
theorem dX12_after_91 : decode cX12_after 91 = .ok (.getfield 7, 3) := by decide +kernel
theorem dX12_after_94 : decode cX12_after 94 = .ok (.iload 5, 2) := by decide +kernel
theorem dX12_after_96 : decode cX12_after 96 = .ok (.iconst 1, 1) := by decide +kernel
theorem dX12_after_97 : decode cX12_after 97 = .ok (.iadd, 1) := by decide +kernel
theorem dX12_after_98 : decode cX12_after 98 = .ok (.iaload, 1) := by decide +kernel
theorem dX12_after_99 : decode cX12_after 99 = .ok (.iload_n 2, 1) := by decide +kernel
theorem dX12_after_100 : decode cX12_after 100 = .ok (.if_icmp .ge 18, 3) := by decide +kernel
theorem dX12_after_103 : decode cX12_after 103 = .ok (.iload_n 3, 1) := by decide +kernel
theorem dX12_after_104 : decode cX12_after 104 = .ok (.aload_n 0, 1) := by decide +kernel
theorem dX12_after_105 : decode cX12_after 105 = .ok (.getfield 7, 3) := by decide +kernel
theorem dX12_after_108 : decode cX12_after 108 = .ok (.iload 5, 2) := by decide +kernel
theorem dX12_after_110 : decode cX12_after 110 = .ok (.bipush 7, 2) := by decide +kernel
theorem dX12_after_112 : decode cX12_after 112 = .ok (.iadd, 1) := by decide +kernel
theorem dX12_after_113 : decode cX12_after 113 = .ok (.iaload, 1) := by decide +kernel
theorem dX12_after_114 : decode cX12_after 114 = .ok (.invokestatic 68, 3) := by decide +kernel
theorem dX12_after_117 : decode cX12_after 117 = .ok (.istore_n 3, 1) := by decide +kernel
theorem dX12_after_118 : decode cX12_after 118 = .ok (.iinc 4 1, 3) := by decide +kernel
theorem dX12_after_121 : decode cX12_after 121 = .ok (.goto (-96), 3) := by decide +kernel
theorem dX12_after_124 : decode cX12_after 124 = .ok (.iload_n 3, 1) := by decide +kernel
theorem dX12_after_125 : decode cX12_after 125 = .ok (.ireturn, 1) := by decide +kernel
theorem dX12_isMeant_0 : decode cX12_isMeant 0 = .ok (.aload_n 0, 1) := by decide +kernel
theorem dX12_isMeant_1 : decode cX12_isMeant 1 = .ok (.getfield 7, 3) := by decide +kernel
theorem dX12_isMeant_4 : decode cX12_isMeant 4 = .ok (.iconst 1, 1) := by decide +kernel
theorem dX12_isMeant_5 : decode cX12_isMeant 5 = .ok (.iaload, 1) := by decide +kernel
theorem dX12_isMeant_6 : decode cX12_isMeant 6 = .ok (.istore_n 1, 1) := by decide +kernel
theorem dX12_isMeant_7 : decode cX12_isMeant 7 = .ok (.aload_n 0, 1) := by decide +kernel
theorem dX12_isMeant_8 : decode cX12_isMeant 8 = .ok (.iload_n 1, 1) := by decide +kernel
theorem dX12_isMeant_9 : decode cX12_isMeant 9 = .ok (.iconst 4, 1) := by decide +kernel
theorem dX12_isMeant_10 : decode cX12_isMeant 10 = .ok (.invokevirtual 324, 3) := by decide +kernel
theorem dX12_isMeant_13 : decode cX12_isMeant 13 = .ok (.istore_n 2, 1) := by decide +kernel
theorem dX12_isMeant_14 : decode cX12_isMeant 14 = .ok (.sipush 150, 3) := by decide +kernel
theorem dX12_isMeant_17 : decode cX12_isMeant 17 = .ok (.bipush 60, 2) := by decide +kernel
theorem dX12_isMeant_19 : decode cX12_isMeant 19 = .ok (.iload_n 1, 1) := by decide +kernel
theorem dX12_isMeant_20 : decode cX12_isMeant 20 = .ok (.imul, 1) := by decide +kernel
theorem dX12_isMeant_21 : decode cX12_isMeant 21 = .ok (.iadd, 1) := by decide +kernel
theorem dX12_isMeant_22 : decode cX12_isMeant 22 = .ok (.iconst 5, 1) := by decide +kernel
theorem dX12_isMeant_23 : decode cX12_isMeant 23 = .ok (.iload_n 2, 1) := by decide +kernel
theorem dX12_isMeant_24 : decode cX12_isMeant 24 = .ok (.imul, 1) := by decide +kernel
theorem dX12_isMeant_25 : decode cX12_isMeant 25 = .ok (.iadd, 1) := by decide +kernel
theorem dX12_isMeant_26 : decode cX12_isMeant 26 = .ok (.istore_n 3, 1) := by decide +kernel
theorem dX12_isMeant_27 : decode cX12_isMeant 27 = .ok (.aload_n 0, 1) := by decide +kernel
theorem dX12_isMeant_28 : decode cX12_isMeant 28 = .ok (.iload_n 1, 1) := by decide +kernel
theorem dX12_isMeant_29 : decode cX12_isMeant 29 = .ok (.iload_n 2, 1) := by decide +kernel
theorem dX12_isMeant_30 : decode cX12_isMeant 30 = .ok (.iload_n 3, 1) := by decide +kernel
theorem dX12_isMeant_31 : decode cX12_isMeant 31 = .ok (.invokevirtual 410, 3) := by decide +kernel
theorem dX12_isMeant_34 : decode cX12_isMeant 34 = .ok (.ifCond .ne 143, 3) := by decide +kernel
theorem dX12_isMeant_37 : decode cX12_isMeant 37 = .ok (.aload_n 0, 1) := by decide +kernel
theorem dX12_isMeant_38 : decode cX12_isMeant 38 = .ok (.getfield 7, 3) := by decide +kernel
theorem dX12_isMeant_41 : decode cX12_isMeant 41 = .ok (.iload_n 3, 1) := by decide +kernel
theorem dX12_isMeant_42 : decode cX12_isMeant 42 = .ok (.iaload, 1) := by decide +kernel
theorem dX12_isMeant_43 : decode cX12_isMeant 43 = .ok (.aload_n 0, 1) := by decide +kernel
theorem dX12_isMeant_44 : decode cX12_isMeant 44 = .ok (.getfield 7, 3) := by decide +kernel
theorem dX12_isMeant_47 : decode cX12_isMeant 47 = .ok (.iload_n 3, 1) := by decide +kernel
theorem dX12_isMeant_48 : decode cX12_isMeant 48 = .ok (.iconst 3, 1) := by decide +kernel
theorem dX12_isMeant_49 : decode cX12_isMeant 49 = .ok (.iadd, 1) := by decide +kernel
theorem dX12_isMeant_50 : decode cX12_isMeant 50 = .ok (.iaload, 1) := by decide +kernel
theorem dX12_isMeant_51 : decode cX12_isMeant 51 = .ok (.iadd, 1) := by decide +kernel
theorem dX12_isMeant_52 : decode cX12_isMeant 52 = .ok (.aload_n 0, 1) := by decide +kernel
theorem dX12_isMeant_53 : decode cX12_isMeant 53 = .ok (.iload_n 1, 1) := by decide +kernel
theorem dX12_isMeant_54 : decode cX12_isMeant 54 = .ok (.iconst 0, 1) := by decide +kernel
theorem dX12_isMeant_55 : decode cX12_isMeant 55 = .ok (.invokevirtual 324, 3) := by decide +kernel
theorem dX12_isMeant_58 : decode cX12_isMeant 58 = .ok (.invokestatic 64, 3) := by decide +kernel
theorem dX12_isMeant_61 : decode cX12_isMeant 61 = .ok (.istore 4, 2) := by decide +kernel
theorem dX12_isMeant_63 : decode cX12_isMeant 63 = .ok (.aload_n 0, 1) := by decide +kernel
theorem dX12_isMeant_64 : decode cX12_isMeant 64 = .ok (.iload_n 1, 1) := by decide +kernel
theorem dX12_isMeant_65 : decode cX12_isMeant 65 = .ok (.iload 4, 2) := by decide +kernel
theorem dX12_isMeant_67 : decode cX12_isMeant 67 = .ok (.aload_n 0, 1) := by decide +kernel
theorem dX12_isMeant_68 : decode cX12_isMeant 68 = .ok (.getfield 7, 3) := by decide +kernel
theorem dX12_isMeant_71 : decode cX12_isMeant 71 = .ok (.iload_n 3, 1) := by decide +kernel
theorem dX12_isMeant_72 : decode cX12_isMeant 72 = .ok (.iconst 3, 1) := by decide +kernel
theorem dX12_isMeant_73 : decode cX12_isMeant 73 = .ok (.iadd, 1) := by decide +kernel
theorem dX12_isMeant_74 : decode cX12_isMeant 74 = .ok (.iaload, 1) := by decide +kernel
theorem dX12_isMeant_75 : decode cX12_isMeant 75 = .ok (.aload_n 0, 1) := by decide +kernel
theorem dX12_isMeant_76 : decode cX12_isMeant 76 = .ok (.getfield 7, 3) := by decide +kernel
theorem dX12_isMeant_79 : decode cX12_isMeant 79 = .ok (.iload_n 3, 1) := by decide +kernel
theorem dX12_isMeant_80 : decode cX12_isMeant 80 = .ok (.iconst 1, 1) := by decide +kernel
theorem dX12_isMeant_81 : decode cX12_isMeant 81 = .ok (.iadd, 1) := by decide +kernel
theorem dX12_isMeant_82 : decode cX12_isMeant 82 = .ok (.iaload, 1) := by decide +kernel
theorem dX12_isMeant_83 : decode cX12_isMeant 83 = .ok (.aload_n 0, 1) := by decide +kernel
theorem dX12_isMeant_84 : decode cX12_isMeant 84 = .ok (.iload_n 1, 1) := by decide +kernel
theorem dX12_isMeant_85 : decode cX12_isMeant 85 = .ok (.iconst 1, 1) := by decide +kernel
theorem dX12_isMeant_86 : decode cX12_isMeant 86 = .ok (.invokevirtual 324, 3) := by decide +kernel
theorem dX12_isMeant_89 : decode cX12_isMeant 89 = .ok (.aload_n 0, 1) := by decide +kernel
theorem dX12_isMeant_90 : decode cX12_isMeant 90 = .ok (.iload_n 1, 1) := by decide +kernel
theorem dX12_isMeant_91 : decode cX12_isMeant 91 = .ok (.iconst 3, 1) := by decide +kernel
theorem dX12_isMeant_92 : decode cX12_isMeant 92 = .ok (.invokevirtual 324, 3) := by decide +kernel
theorem dX12_isMeant_95 : decode cX12_isMeant 95 = .ok (.invokevirtual 376, 3) := by decide +kernel
theorem dX12_isMeant_98 : decode cX12_isMeant 98 = .ok (.aload_n 0, 1) := by decide +kernel
theorem dX12_isMeant_99 : decode cX12_isMeant 99 = .ok (.iload_n 1, 1) := by decide +kernel
theorem dX12_isMeant_100 : decode cX12_isMeant 100 = .ok (.iconst 1, 1) := by decide +kernel
theorem dX12_isMeant_101 : decode cX12_isMeant 101 = .ok (.sipush 1000, 3) := by decide +kernel
theorem dX12_isMeant_104 : decode cX12_isMeant 104 = .ok (.aload_n 0, 1) := by decide +kernel
theorem dX12_isMeant_105 : decode cX12_isMeant 105 = .ok (.iload_n 1, 1) := by decide +kernel
theorem dX12_isMeant_106 : decode cX12_isMeant 106 = .ok (.iconst 1, 1) := by decide +kernel
theorem dX12_isMeant_107 : decode cX12_isMeant 107 = .ok (.invokevirtual 324, 3) := by decide +kernel
theorem dX12_isMeant_110 : decode cX12_isMeant 110 = .ok (.aload_n 0, 1) := by decide +kernel
theorem dX12_isMeant_111 : decode cX12_isMeant 111 = .ok (.invokevirtual 383, 3) := by decide +kernel
theorem dX12_isMeant_114 : decode cX12_isMeant 114 = .ok (.iadd, 1) := by decide +kernel
theorem dX12_isMeant_115 : decode cX12_isMeant 115 = .ok (.invokestatic 64, 3) := by decide +kernel
theorem dX12_isMeant_118 : decode cX12_isMeant 118 = .ok (.invokevirtual 83, 3) := by decide +kernel
theorem dX12_isMeant_121 : decode cX12_isMeant 121 = .ok (.aload_n 0, 1) := by decide +kernel
theorem dX12_isMeant_122 : decode cX12_isMeant 122 = .ok (.iload_n 1, 1) := by decide +kernel
theorem dX12_isMeant_123 : decode cX12_isMeant 123 = .ok (.iconst 2, 1) := by decide +kernel
theorem dX12_isMeant_124 : decode cX12_isMeant 124 = .ok (.aload_n 0, 1) := by decide +kernel
theorem dX12_isMeant_125 : decode cX12_isMeant 125 = .ok (.iload_n 1, 1) := by decide +kernel
theorem dX12_isMeant_126 : decode cX12_isMeant 126 = .ok (.iconst 2, 1) := by decide +kernel
theorem dX12_isMeant_127 : decode cX12_isMeant 127 = .ok (.invokevirtual 324, 3) := by decide +kernel
theorem dX12_isMeant_130 : decode cX12_isMeant 130 = .ok (.aload_n 0, 1) := by decide +kernel
theorem dX12_isMeant_131 : decode cX12_isMeant 131 = .ok (.iload 4, 2) := by decide +kernel
theorem dX12_isMeant_133 : decode cX12_isMeant 133 = .ok (.aload_n 0, 1) := by decide +kernel
theorem dX12_isMeant_134 : decode cX12_isMeant 134 = .ok (.getfield 7, 3) := by decide +kernel
theorem dX12_isMeant_137 : decode cX12_isMeant 137 = .ok (.iload_n 3, 1) := by decide +kernel
theorem dX12_isMeant_138 : decode cX12_isMeant 138 = .ok (.iconst 1, 1) := by decide +kernel
theorem dX12_isMeant_139 : decode cX12_isMeant 139 = .ok (.iadd, 1) := by decide +kernel
theorem dX12_isMeant_140 : decode cX12_isMeant 140 = .ok (.iaload, 1) := by decide +kernel
theorem dX12_isMeant_141 : decode cX12_isMeant 141 = .ok (.aload_n 0, 1) := by decide +kernel
theorem dX12_isMeant_142 : decode cX12_isMeant 142 = .ok (.getfield 7, 3) := by decide +kernel
theorem dX12_isMeant_145 : decode cX12_isMeant 145 = .ok (.iload_n 3, 1) := by decide +kernel
theorem dX12_isMeant_146 : decode cX12_isMeant 146 = .ok (.iconst 2, 1) := by decide +kernel
theorem dX12_isMeant_147 : decode cX12_isMeant 147 = .ok (.iadd, 1) := by decide +kernel
theorem dX12_isMeant_148 : decode cX12_isMeant 148 = .ok (.iaload, 1) := by decide +kernel
theorem dX12_isMeant_149 : decode cX12_isMeant 149 = .ok (.aload_n 0, 1) := by decide +kernel
theorem dX12_isMeant_150 : decode cX12_isMeant 150 = .ok (.iconst 0, 1) := by decide +kernel
theorem dX12_isMeant_151 : decode cX12_isMeant 151 = .ok (.invokevirtual 364, 3) := by decide +kernel
theorem dX12_isMeant_154 : decode cX12_isMeant 154 = .ok (.invokevirtual 434, 3) := by decide +kernel
theorem dX12_isMeant_157 : decode cX12_isMeant 157 = .ok (.invokestatic 68, 3) := by decide +kernel
theorem dX12_isMeant_160 : decode cX12_isMeant 160 = .ok (.invokevirtual 83, 3) := by decide +kernel
theorem dX12_isMeant_163 : decode cX12_isMeant 163 = .ok (.aload_n 0, 1) := by decide +kernel
theorem dX12_isMeant_164 : decode cX12_isMeant 164 = .ok (.iload_n 1, 1) := by decide +kernel
theorem dX12_isMeant_165 : decode cX12_isMeant 165 = .ok (.iconst 3, 1) := by decide +kernel
theorem dX12_isMeant_166 : decode cX12_isMeant 166 = .ok (.aload_n 0, 1) := by decide +kernel
theorem dX12_isMeant_167 : decode cX12_isMeant 167 = .ok (.iload_n 1, 1) := by decide +kernel
theorem dX12_isMeant_168 : decode cX12_isMeant 168 = .ok (.iconst 3, 1) := by decide +kernel
theorem dX12_isMeant_169 : decode cX12_isMeant 169 = .ok (.invokevirtual 324, 3) := by decide +kernel
theorem dX12_isMeant_172 : decode cX12_isMeant 172 = .ok (.iconst 1, 1) := by decide +kernel
theorem dX12_isMeant_173 : decode cX12_isMeant 173 = .ok (.iadd, 1) := by decide +kernel
theorem dX12_isMeant_174 : decode cX12_isMeant 174 = .ok (.invokevirtual 83, 3) := by decide +kernel
theorem dX12_isMeant_177 : decode cX12_isMeant 177 = .ok (.iload_n 2, 1) := by decide +kernel
theorem dX12_isMeant_178 : decode cX12_isMeant 178 = .ok (.aload_n 0, 1) := by decide +kernel
theorem dX12_isMeant_179 : decode cX12_isMeant 179 = .ok (.getfield 7, 3) := by decide +kernel
theorem dX12_isMeant_182 : decode cX12_isMeant 182 = .ok (.bipush 82, 2) := by decide +kernel
theorem dX12_isMeant_184 : decode cX12_isMeant 184 = .ok (.iload_n 1, 1) := by decide +kernel
theorem dX12_isMeant_185 : decode cX12_isMeant 185 = .ok (.iadd, 1) := by decide +kernel
theorem dX12_isMeant_186 : decode cX12_isMeant 186 = .ok (.iaload, 1) := by decide +kernel
theorem dX12_isMeant_187 : decode cX12_isMeant 187 = .ok (.if_icmp .ge 12, 3) := by decide +kernel
theorem dX12_isMeant_190 : decode cX12_isMeant 190 = .ok (.aload_n 0, 1) := by decide +kernel
theorem dX12_isMeant_191 : decode cX12_isMeant 191 = .ok (.iload_n 1, 1) := by decide +kernel
theorem dX12_isMeant_192 : decode cX12_isMeant 192 = .ok (.iconst 4, 1) := by decide +kernel
theorem dX12_isMeant_193 : decode cX12_isMeant 193 = .ok (.iload_n 2, 1) := by decide +kernel
theorem dX12_isMeant_194 : decode cX12_isMeant 194 = .ok (.iconst 1, 1) := by decide +kernel
theorem dX12_isMeant_195 : decode cX12_isMeant 195 = .ok (.iadd, 1) := by decide +kernel
theorem dX12_isMeant_196 : decode cX12_isMeant 196 = .ok (.invokevirtual 83, 3) := by decide +kernel
theorem dX12_isMeant_199 : decode cX12_isMeant 199 = .ok (.aload_n 0, 1) := by decide +kernel
theorem dX12_isMeant_200 : decode cX12_isMeant 200 = .ok (.invokevirtual 395, 3) := by decide +kernel
theorem dX12_isMeant_203 : decode cX12_isMeant 203 = .ok (.return_, 1) := by decide +kernel
theorem dX12_would_0 : decode cX12_would 0 = .ok (.aload_n 0, 1) := by decide +kernel
theorem dX12_would_1 : decode cX12_would 1 = .ok (.iload_n 1, 1) := by decide +kernel
theorem dX12_would_2 : decode cX12_would 2 = .ok (.invokevirtual 87, 3) := by decide +kernel
theorem dX12_would_5 : decode cX12_would 5 = .ok (.ifCond .ne 5, 3) := by decide +kernel
theorem dX12_would_8 : decode cX12_would 8 = .ok (.iconst (-1), 1) := by decide +kernel
theorem dX12_would_9 : decode cX12_would 9 = .ok (.ireturn, 1) := by decide +kernel
theorem dX12_would_10 : decode cX12_would 10 = .ok (.iconst 0, 1) := by decide +kernel
theorem dX12_would_11 : decode cX12_would 11 = .ok (.istore_n 2, 1) := by decide +kernel
theorem dX12_would_12 : decode cX12_would 12 = .ok (.iload_n 2, 1) := by decide +kernel
theorem dX12_would_13 : decode cX12_would 13 = .ok (.bipush 60, 2) := by decide +kernel
theorem dX12_would_15 : decode cX12_would 15 = .ok (.if_icmp .ge 21, 3) := by decide +kernel
theorem dX12_would_18 : decode cX12_would 18 = .ok (.aload_n 0, 1) := by decide +kernel
theorem dX12_would_19 : decode cX12_would 19 = .ok (.getfield 37, 3) := by decide +kernel
theorem dX12_would_22 : decode cX12_would 22 = .ok (.iload_n 2, 1) := by decide +kernel
theorem dX12_would_23 : decode cX12_would 23 = .ok (.aload_n 0, 1) := by decide +kernel
theorem dX12_would_24 : decode cX12_would 24 = .ok (.getfield 7, 3) := by decide +kernel
