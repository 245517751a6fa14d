theorem dX12_would_27 : decode cX12_would 27 = .ok (.iload_n 2, 1) := by decide +kernel
theorem dX12_would_28 : decode cX12_would 28 = .ok (.iaload, 1) := by decide +kernel
theorem dX12_would_29 : decode cX12_would 29 = .ok (.iastore, 1) := by decide +kernel
theorem dX12_would_30 : decode cX12_would 30 = .ok (.iinc 2 1, 3) := by decide +kernel
theorem dX12_would_33 : decode cX12_would 33 = .ok (.goto (-21), 3) := by decide +kernel
theorem dX12_would_36 : decode cX12_would 36 = .ok (.aload_n 0, 1) := by decide +kernel
theorem dX12_would_37 : decode cX12_would 37 = .ok (.invokevirtual 398, 3) := by decide +kernel
theorem dX12_would_40 : decode cX12_would 40 = .ok (.ifCond .eq 10, 3) := by decide +kernel
theorem dX12_would_43 : decode cX12_would 43 = .ok (.aload_n 0, 1) := by decide +kernel
theorem dX12_would_44 : decode cX12_would 44 = .ok (.invokevirtual 466, 3) := by decide +kernel
theorem dX12_would_47 : decode cX12_would 47 = .ok (.goto (-11), 3) := by decide +kernel
theorem dX12_would_50 : decode cX12_would 50 = .ok (.aload_n 0, 1) := by decide +kernel
theorem dX12_would_51 : decode cX12_would 51 = .ok (.iload_n 1, 1) := by decide +kernel
theorem dX12_would_52 : decode cX12_would 52 = .ok (.iconst 2, 1) := by decide +kernel
theorem dX12_would_53 : decode cX12_would 53 = .ok (.invokevirtual 324, 3) := by decide +kernel
theorem dX12_would_56 : decode cX12_would 56 = .ok (.istore_n 2, 1) := by decide +kernel
theorem dX12_would_57 : decode cX12_would 57 = .ok (.iconst 0, 1) := by decide +kernel
theorem dX12_would_58 : decode cX12_would 58 = .ok (.istore_n 3, 1) := by decide +kernel
theorem dX12_would_59 : decode cX12_would 59 = .ok (.iload_n 3, 1) := by decide +kernel
theorem dX12_would_60 : decode cX12_would 60 = .ok (.bipush 60, 2) := by decide +kernel
theorem dX12_would_62 : decode cX12_would 62 = .ok (.if_icmp .ge 21, 3) := by decide +kernel
theorem dX12_would_65 : decode cX12_would 65 = .ok (.aload_n 0, 1) := by decide +kernel
theorem dX12_would_66 : decode cX12_would 66 = .ok (.getfield 7, 3) := by decide +kernel
theorem dX12_would_69 : decode cX12_would 69 = .ok (.iload_n 3, 1) := by decide +kernel
theorem dX12_would_70 : decode cX12_would 70 = .ok (.aload_n 0, 1) := by decide +kernel
theorem dX12_would_71 : decode cX12_would 71 = .ok (.getfield 37, 3) := by decide +kernel
theorem dX12_would_74 : decode cX12_would 74 = .ok (.iload_n 3, 1) := by decide +kernel
theorem dX12_would_75 : decode cX12_would 75 = .ok (.iaload, 1) := by decide +kernel
theorem dX12_would_76 : decode cX12_would 76 = .ok (.iastore, 1) := by decide +kernel
theorem dX12_would_77 : decode cX12_would 77 = .ok (.iinc 3 1, 3) := by decide +kernel
theorem dX12_would_80 : decode cX12_would 80 = .ok (.goto (-21), 3) := by decide +kernel
theorem dX12_would_83 : decode cX12_would 83 = .ok (.iload_n 2, 1) := by decide +kernel
theorem dX12_would_84 : decode cX12_would 84 = .ok (.ireturn, 1) := by decide +kernel
theorem dX12_verdict_0 : decode cX12_verdict 0 = .ok (.iload_n 1, 1) := by decide +kernel
theorem dX12_verdict_1 : decode cX12_verdict 1 = .ok (.iconst 0, 1) := by decide +kernel
theorem dX12_verdict_2 : decode cX12_verdict 2 = .ok (.sipush 1000, 3) := by decide +kernel
theorem dX12_verdict_5 : decode cX12_verdict 5 = .ok (.invokestatic 71, 3) := by decide +kernel
theorem dX12_verdict_8 : decode cX12_verdict 8 = .ok (.ifCond .ne 7, 3) := by decide +kernel
theorem dX12_verdict_11 : decode cX12_verdict 11 = .ok (.ldc2_w 452, 3) := by decide +kernel
theorem dX12_verdict_14 : decode cX12_verdict 14 = .ok (.lreturn, 1) := by decide +kernel
theorem dX12_verdict_15 : decode cX12_verdict 15 = .ok (.ldc2_w 469, 3) := by decide +kernel
theorem dX12_verdict_18 : decode cX12_verdict 18 = .ok (.iload_n 1, 1) := by decide +kernel
theorem dX12_verdict_19 : decode cX12_verdict 19 = .ok (.i2l, 1) := by decide +kernel
theorem dX12_verdict_20 : decode cX12_verdict 20 = .ok (.lsub, 1) := by decide +kernel
theorem dX12_verdict_21 : decode cX12_verdict 21 = .ok (.lstore_n 2, 1) := by decide +kernel
theorem dX12_verdict_22 : decode cX12_verdict 22 = .ok (.lload_n 2, 1) := by decide +kernel
theorem dX12_verdict_23 : decode cX12_verdict 23 = .ok (.lload_n 2, 1) := by decide +kernel
theorem dX12_verdict_24 : decode cX12_verdict 24 = .ok (.lmul, 1) := by decide +kernel
theorem dX12_verdict_25 : decode cX12_verdict 25 = .ok (.lload_n 2, 1) := by decide +kernel
theorem dX12_verdict_26 : decode cX12_verdict 26 = .ok (.ldc2_w 471, 3) := by decide +kernel
theorem dX12_verdict_29 : decode cX12_verdict 29 = .ok (.iload_n 1, 1) := by decide +kernel
theorem dX12_verdict_30 : decode cX12_verdict 30 = .ok (.i2l, 1) := by decide +kernel
theorem dX12_verdict_31 : decode cX12_verdict 31 = .ok (.lmul, 1) := by decide +kernel
theorem dX12_verdict_32 : decode cX12_verdict 32 = .ok (.ladd, 1) := by decide +kernel
theorem dX12_verdict_33 : decode cX12_verdict 33 = .ok (.lmul, 1) := by decide +kernel
theorem dX12_verdict_34 : decode cX12_verdict 34 = .ok (.lreturn, 1) := by decide +kernel
theorem dX12_trains_0 : decode cX12_trains 0 = .ok (.iconst 0, 1) := by decide +kernel
theorem dX12_trains_1 : decode cX12_trains 1 = .ok (.istore 6, 2) := by decide +kernel
theorem dX12_trains_3 : decode cX12_trains 3 = .ok (.iconst 0, 1) := by decide +kernel
theorem dX12_trains_4 : decode cX12_trains 4 = .ok (.istore 7, 2) := by decide +kernel
theorem dX12_trains_6 : decode cX12_trains 6 = .ok (.iload 7, 2) := by decide +kernel
theorem dX12_trains_8 : decode cX12_trains 8 = .ok (.iload_n 1, 1) := by decide +kernel
theorem dX12_trains_9 : decode cX12_trains 9 = .ok (.if_icmp .ge 202, 3) := by decide +kernel
theorem dX12_trains_12 : decode cX12_trains 12 = .ok (.iload_n 3, 1) := by decide +kernel
theorem dX12_trains_13 : decode cX12_trains 13 = .ok (.istore 8, 2) := by decide +kernel
theorem dX12_trains_15 : decode cX12_trains 15 = .ok (.iload 8, 2) := by decide +kernel
theorem dX12_trains_17 : decode cX12_trains 17 = .ok (.iload 4, 2) := by decide +kernel
theorem dX12_trains_19 : decode cX12_trains 19 = .ok (.if_icmp .gt 186, 3) := by decide +kernel
theorem dX12_trains_22 : decode cX12_trains 22 = .ok (.aload_n 0, 1) := by decide +kernel
theorem dX12_trains_23 : decode cX12_trains 23 = .ok (.getfield 34, 3) := by decide +kernel
theorem dX12_trains_26 : decode cX12_trains 26 = .ok (.bipush 18, 2) := by decide +kernel
theorem dX12_trains_28 : decode cX12_trains 28 = .ok (.iload 8, 2) := by decide +kernel
theorem dX12_trains_30 : decode cX12_trains 30 = .ok (.iastore, 1) := by decide +kernel
theorem dX12_trains_31 : decode cX12_trains 31 = .ok (.aload_n 0, 1) := by decide +kernel
theorem dX12_trains_32 : decode cX12_trains 32 = .ok (.getfield 34, 3) := by decide +kernel
theorem dX12_trains_35 : decode cX12_trains 35 = .ok (.bipush 14, 2) := by decide +kernel
theorem dX12_trains_37 : decode cX12_trains 37 = .ok (.aload_n 0, 1) := by decide +kernel
theorem dX12_trains_38 : decode cX12_trains 38 = .ok (.getfield 45, 3) := by decide +kernel
theorem dX12_trains_41 : decode cX12_trains 41 = .ok (.iload 7, 2) := by decide +kernel
theorem dX12_trains_43 : decode cX12_trains 43 = .ok (.iaload, 1) := by decide +kernel
theorem dX12_trains_44 : decode cX12_trains 44 = .ok (.sipush 1001, 3) := by decide +kernel
theorem dX12_trains_47 : decode cX12_trains 47 = .ok (.idiv, 1) := by decide +kernel
theorem dX12_trains_48 : decode cX12_trains 48 = .ok (.iastore, 1) := by decide +kernel
theorem dX12_trains_49 : decode cX12_trains 49 = .ok (.aload_n 0, 1) := by decide +kernel
theorem dX12_trains_50 : decode cX12_trains 50 = .ok (.getfield 34, 3) := by decide +kernel
theorem dX12_trains_53 : decode cX12_trains 53 = .ok (.bipush 13, 2) := by decide +kernel
theorem dX12_trains_55 : decode cX12_trains 55 = .ok (.aload_n 0, 1) := by decide +kernel
theorem dX12_trains_56 : decode cX12_trains 56 = .ok (.getfield 45, 3) := by decide +kernel
theorem dX12_trains_59 : decode cX12_trains 59 = .ok (.iload 7, 2) := by decide +kernel
theorem dX12_trains_61 : decode cX12_trains 61 = .ok (.iaload, 1) := by decide +kernel
theorem dX12_trains_62 : decode cX12_trains 62 = .ok (.sipush 1001, 3) := by decide +kernel
theorem dX12_trains_65 : decode cX12_trains 65 = .ok (.irem, 1) := by decide +kernel
theorem dX12_trains_66 : decode cX12_trains 66 = .ok (.iastore, 1) := by decide +kernel
theorem dX12_trains_67 : decode cX12_trains 67 = .ok (.aload_n 0, 1) := by decide +kernel
theorem dX12_trains_68 : decode cX12_trains 68 = .ok (.getfield 34, 3) := by decide +kernel
theorem dX12_trains_71 : decode cX12_trains 71 = .ok (.bipush 19, 2) := by decide +kernel
theorem dX12_trains_73 : decode cX12_trains 73 = .ok (.iload_n 2, 1) := by decide +kernel
theorem dX12_trains_74 : decode cX12_trains 74 = .ok (.iastore, 1) := by decide +kernel
theorem dX12_trains_75 : decode cX12_trains 75 = .ok (.bipush 99, 2) := by decide +kernel
theorem dX12_trains_77 : decode cX12_trains 77 = .ok (.aload_n 0, 1) := by decide +kernel
theorem dX12_trains_78 : decode cX12_trains 78 = .ok (.getfield 45, 3) := by decide +kernel
theorem dX12_trains_81 : decode cX12_trains 81 = .ok (.iload 7, 2) := by decide +kernel
theorem dX12_trains_83 : decode cX12_trains 83 = .ok (.iaload, 1) := by decide +kernel
theorem dX12_trains_84 : decode cX12_trains 84 = .ok (.sipush 1001, 3) := by decide +kernel
theorem dX12_trains_87 : decode cX12_trains 87 = .ok (.idiv, 1) := by decide +kernel
theorem dX12_trains_88 : decode cX12_trains 88 = .ok (.aload_n 0, 1) := by decide +kernel
theorem dX12_trains_89 : decode cX12_trains 89 = .ok (.iconst 2, 1) := by decide +kernel
theorem dX12_trains_90 : decode cX12_trains 90 = .ok (.bipush 27, 2) := by decide +kernel
theorem dX12_trains_92 : decode cX12_trains 92 = .ok (.iconst 0, 1) := by decide +kernel
theorem dX12_trains_93 : decode cX12_trains 93 = .ok (.bipush 9, 2) := by decide +kernel
theorem dX12_trains_95 : decode cX12_trains 95 = .ok (.invokevirtual 327, 3) := by decide +kernel
theorem dX12_trains_98 : decode cX12_trains 98 = .ok (.iadd, 1) := by decide +kernel
theorem dX12_trains_99 : decode cX12_trains 99 = .ok (.invokestatic 64, 3) := by decide +kernel
theorem dX12_trains_102 : decode cX12_trains 102 = .ok (.istore 9, 2) := by decide +kernel
theorem dX12_trains_104 : decode cX12_trains 104 = .ok (.aload_n 0, 1) := by decide +kernel
theorem dX12_trains_105 : decode cX12_trains 105 = .ok (.getfield 45, 3) := by decide +kernel
theorem dX12_trains_108 : decode cX12_trains 108 = .ok (.iload 7, 2) := by decide +kernel
theorem dX12_trains_110 : decode cX12_trains 110 = .ok (.iaload, 1) := by decide +kernel
theorem dX12_trains_111 : decode cX12_trains 111 = .ok (.sipush 1001, 3) := by decide +kernel
theorem dX12_trains_114 : decode cX12_trains 114 = .ok (.irem, 1) := by decide +kernel
theorem dX12_trains_115 : decode cX12_trains 115 = .ok (.aload_n 0, 1) := by decide +kernel
theorem dX12_trains_116 : decode cX12_trains 116 = .ok (.iconst 2, 1) := by decide +kernel
theorem dX12_trains_117 : decode cX12_trains 117 = .ok (.bipush 28, 2) := by decide +kernel
theorem dX12_trains_119 : decode cX12_trains 119 = .ok (.sipush (-200), 3) := by decide +kernel
theorem dX12_trains_122 : decode cX12_trains 122 = .ok (.sipush 200, 3) := by decide +kernel
theorem dX12_trains_125 : decode cX12_trains 125 = .ok (.invokevirtual 327, 3) := by decide +kernel
theorem dX12_trains_128 : decode cX12_trains 128 = .ok (.iadd, 1) := by decide +kernel
theorem dX12_trains_129 : decode cX12_trains 129 = .ok (.iconst 0, 1) := by decide +kernel
theorem dX12_trains_130 : decode cX12_trains 130 = .ok (.sipush 1000, 3) := by decide +kernel
theorem dX12_trains_133 : decode cX12_trains 133 = .ok (.invokestatic 321, 3) := by decide +kernel
theorem dX12_trains_136 : decode cX12_trains 136 = .ok (.istore 10, 2) := by decide +kernel
theorem dX12_trains_138 : decode cX12_trains 138 = .ok (.iload 10, 2) := by decide +kernel
theorem dX12_trains_140 : decode cX12_trains 140 = .ok (.iload 5, 2) := by decide +kernel
theorem dX12_trains_142 : decode cX12_trains 142 = .ok (.if_icmp .gt 57, 3) := by decide +kernel
theorem dX12_trains_145 : decode cX12_trains 145 = .ok (.aload_n 0, 1) := by decide +kernel
theorem dX12_trains_146 : decode cX12_trains 146 = .ok (.getfield 51, 3) := by decide +kernel
theorem dX12_trains_149 : decode cX12_trains 149 = .ok (.sipush 1001, 3) := by decide +kernel
theorem dX12_trains_152 : decode cX12_trains 152 = .ok (.iload 9, 2) := by decide +kernel
theorem dX12_trains_154 : decode cX12_trains 154 = .ok (.imul, 1) := by decide +kernel
theorem dX12_trains_155 : decode cX12_trains 155 = .ok (.iload 10, 2) := by decide +kernel
theorem dX12_trains_157 : decode cX12_trains 157 = .ok (.iadd, 1) := by decide +kernel
theorem dX12_trains_158 : decode cX12_trains 158 = .ok (.baload, 1) := by decide +kernel
theorem dX12_trains_159 : decode cX12_trains 159 = .ok (.ifCond .eq 6, 3) := by decide +kernel
theorem dX12_trains_162 : decode cX12_trains 162 = .ok (.goto 37, 3) := by decide +kernel
theorem dX12_trains_165 : decode cX12_trains 165 = .ok (.aload_n 0, 1) := by decide +kernel
theorem dX12_trains_166 : decode cX12_trains 166 = .ok (.getfield 51, 3) := by decide +kernel
theorem dX12_trains_169 : decode cX12_trains 169 = .ok (.sipush 1001, 3) := by decide +kernel
theorem dX12_trains_172 : decode cX12_trains 172 = .ok (.iload 9, 2) := by decide +kernel
theorem dX12_trains_174 : decode cX12_trains 174 = .ok (.imul, 1) := by decide +kernel
theorem dX12_trains_175 : decode cX12_trains 175 = .ok (.iload 10, 2) := by decide +kernel
theorem dX12_trains_177 : decode cX12_trains 177 = .ok (.iadd, 1) := by decide +kernel
theorem dX12_trains_178 : decode cX12_trains 178 = .ok (.iconst 1, 1) := by decide +kernel
theorem dX12_trains_179 : decode cX12_trains 179 = .ok (.bastore, 1) := by decide +kernel
theorem dX12_trains_180 : decode cX12_trains 180 = .ok (.aload_n 0, 1) := by decide +kernel
theorem dX12_trains_181 : decode cX12_trains 181 = .ok (.getfield 48, 3) := by decide +kernel
theorem dX12_trains_184 : decode cX12_trains 184 = .ok (.iload 6, 2) := by decide +kernel
theorem dX12_trains_186 : decode cX12_trains 186 = .ok (.sipush 1001, 3) := by decide +kernel
theorem dX12_trains_189 : decode cX12_trains 189 = .ok (.iload 9, 2) := by decide +kernel
theorem dX12_trains_191 : decode cX12_trains 191 = .ok (.imul, 1) := by decide +kernel
theorem dX12_trains_192 : decode cX12_trains 192 = .ok (.iload 10, 2) := by decide +kernel
theorem dX12_trains_194 : decode cX12_trains 194 = .ok (.iadd, 1) := by decide +kernel
theorem dX12_trains_195 : decode cX12_trains 195 = .ok (.iastore, 1) := by decide +kernel
theorem dX12_trains_196 : decode cX12_trains 196 = .ok (.iinc 6 1, 3) := by decide +kernel
theorem dX12_trains_199 : decode cX12_trains 199 = .ok (.iinc 8 1, 3) := by decide +kernel
theorem dX12_trains_202 : decode cX12_trains 202 = .ok (.goto (-187), 3) := by decide +kernel
theorem dX12_trains_205 : decode cX12_trains 205 = .ok (.iinc 7 1, 3) := by decide +kernel
theorem dX12_trains_208 : decode cX12_trains 208 = .ok (.goto (-202), 3) := by decide +kernel
theorem dX12_trains_211 : decode cX12_trains 211 = .ok (.iconst 0, 1) := by decide +kernel
theorem dX12_trains_212 : decode cX12_trains 212 = .ok (.istore 7, 2) := by decide +kernel
theorem dX12_trains_214 : decode cX12_trains 214 = .ok (.iload 7, 2) := by decide +kernel
theorem dX12_trains_216 : decode cX12_trains 216 = .ok (.iload 6, 2) := by decide +kernel
theorem dX12_trains_218 : decode cX12_trains 218 = .ok (.if_icmp .ge 36, 3) := by decide +kernel
theorem dX12_trains_221 : decode cX12_trains 221 = .ok (.aload_n 0, 1) := by decide +kernel
theorem dX12_trains_222 : decode cX12_trains 222 = .ok (.getfield 45, 3) := by decide +kernel
theorem dX12_trains_225 : decode cX12_trains 225 = .ok (.iload 7, 2) := by decide +kernel
theorem dX12_trains_227 : decode cX12_trains 227 = .ok (.aload_n 0, 1) := by decide +kernel
theorem dX12_trains_228 : decode cX12_trains 228 = .ok (.getfield 48, 3) := by decide +kernel
theorem dX12_trains_231 : decode cX12_trains 231 = .ok (.iload 7, 2) := by decide +kernel
theorem dX12_trains_233 : decode cX12_trains 233 = .ok (.iaload, 1) := by decide +kernel
theorem dX12_trains_234 : decode cX12_trains 234 = .ok (.iastore, 1) := by decide +kernel
theorem dX12_trains_235 : decode cX12_trains 235 = .ok (.aload_n 0, 1) := by decide +kernel
theorem dX12_trains_236 : decode cX12_trains 236 = .ok (.getfield 51, 3) := by decide +kernel
theorem dX12_trains_239 : decode cX12_trains 239 = .ok (.aload_n 0, 1) := by decide +kernel
theorem dX12_trains_240 : decode cX12_trains 240 = .ok (.getfield 45, 3) := by decide +kernel
theorem dX12_trains_243 : decode cX12_trains 243 = .ok (.iload 7, 2) := by decide +kernel
theorem dX12_trains_245 : decode cX12_trains 245 = .ok (.iaload, 1) := by decide +kernel
theorem dX12_trains_246 : decode cX12_trains 246 = .ok (.iconst 0, 1) := by decide +kernel
theorem dX12_trains_247 : decode cX12_trains 247 = .ok (.bastore, 1) := by decide +kernel
theorem dX12_trains_248 : decode cX12_trains 248 = .ok (.iinc 7 1, 3) := by decide +kernel
theorem dX12_trains_251 : decode cX12_trains 251 = .ok (.goto (-37), 3) := by decide +kernel
theorem dX12_trains_254 : decode cX12_trains 254 = .ok (.iload 6, 2) := by decide +kernel
theorem dX12_trains_256 : decode cX12_trains 256 = .ok (.ireturn, 1) := by decide +kernel
theorem dX12_trained_0 : decode cX12_trained 0 = .ok (.aload_n 0, 1) := by decide +kernel
theorem dX12_trained_1 : decode cX12_trained 1 = .ok (.getfield 45, 3) := by decide +kernel
theorem dX12_trained_4 : decode cX12_trained 4 = .ok (.iconst 0, 1) := by decide +kernel
theorem dX12_trained_5 : decode cX12_trained 5 = .ok (.sipush 1001, 3) := by decide +kernel
theorem dX12_trained_8 : decode cX12_trained 8 = .ok (.aload_n 0, 1) := by decide +kernel
theorem dX12_trained_9 : decode cX12_trained 9 = .ok (.iload_n 1, 1) := by decide +kernel
theorem dX12_trained_10 : decode cX12_trained 10 = .ok (.iconst 0, 1) := by decide +kernel
theorem dX12_trained_11 : decode cX12_trained 11 = .ok (.invokevirtual 324, 3) := by decide +kernel
theorem dX12_trained_14 : decode cX12_trained 14 = .ok (.imul, 1) := by decide +kernel
theorem dX12_trained_15 : decode cX12_trained 15 = .ok (.aload_n 0, 1) := by decide +kernel
theorem dX12_trained_16 : decode cX12_trained 16 = .ok (.iload_n 1, 1) := by decide +kernel
theorem dX12_trained_17 : decode cX12_trained 17 = .ok (.iconst 1, 1) := by decide +kernel
theorem dX12_trained_18 : decode cX12_trained 18 = .ok (.invokevirtual 324, 3) := by decide +kernel
theorem dX12_trained_21 : decode cX12_trained 21 = .ok (.iadd, 1) := by decide +kernel
theorem dX12_trained_22 : decode cX12_trained 22 = .ok (.iastore, 1) := by decide +kernel
theorem dX12_trained_23 : decode cX12_trained 23 = .ok (.aload_n 0, 1) := by decide +kernel
theorem dX12_trained_24 : decode cX12_trained 24 = .ok (.iconst 1, 1) := by decide +kernel
theorem dX12_trained_25 : decode cX12_trained 25 = .ok (.iconst 0, 1) := by decide +kernel
theorem dX12_trained_26 : decode cX12_trained 26 = .ok (.iload 4, 2) := by decide +kernel
theorem dX12_trained_28 : decode cX12_trained 28 = .ok (.iload 4, 2) := by decide +kernel
theorem dX12_trained_30 : decode cX12_trained 30 = .ok (.iload_n 3, 1) := by decide +kernel
theorem dX12_trained_31 : decode cX12_trained 31 = .ok (.invokevirtual 473, 3) := by decide +kernel
theorem dX12_trained_34 : decode cX12_trained 34 = .ok (.istore 5, 2) := by decide +kernel
theorem dX12_trained_36 : decode cX12_trained 36 = .ok (.iconst 1, 1) := by decide +kernel
theorem dX12_trained_37 : decode cX12_trained 37 = .ok (.istore 6, 2) := by decide +kernel
theorem dX12_trained_39 : decode cX12_trained 39 = .ok (.iload 6, 2) := by decide +kernel
theorem dX12_trained_41 : decode cX12_trained 41 = .ok (.iload_n 2, 1) := by decide +kernel
theorem dX12_trained_42 : decode cX12_trained 42 = .ok (.if_icmp .ge 22, 3) := by decide +kernel
theorem dX12_trained_45 : decode cX12_trained 45 = .ok (.aload_n 0, 1) := by decide +kernel
theorem dX12_trained_46 : decode cX12_trained 46 = .ok (.iload 5, 2) := by decide +kernel
theorem dX12_trained_48 : decode cX12_trained 48 = .ok (.iload 6, 2) := by decide +kernel
theorem dX12_trained_50 : decode cX12_trained 50 = .ok (.iconst 0, 1) := by decide +kernel
theorem dX12_trained_51 : decode cX12_trained 51 = .ok (.iconst 3, 1) := by decide +kernel
theorem dX12_trained_52 : decode cX12_trained 52 = .ok (.iload_n 3, 1) := by decide +kernel
theorem dX12_trained_53 : decode cX12_trained 53 = .ok (.invokevirtual 473, 3) := by decide +kernel
theorem dX12_trained_56 : decode cX12_trained 56 = .ok (.istore 5, 2) := by decide +kernel
theorem dX12_trained_58 : decode cX12_trained 58 = .ok (.iinc 6 1, 3) := by decide +kernel
theorem dX12_trained_61 : decode cX12_trained 61 = .ok (.goto (-22), 3) := by decide +kernel
theorem dX12_trained_64 : decode cX12_trained 64 = .ok (.iconst (-1), 1) := by decide +kernel
theorem dX12_trained_65 : decode cX12_trained 65 = .ok (.istore 6, 2) := by decide +kernel
theorem dX12_trained_67 : decode cX12_trained 67 = .ok (.iconst 0, 1) := by decide +kernel
theorem dX12_trained_68 : decode cX12_trained 68 = .ok (.istore 7, 2) := by decide +kernel
theorem dX12_trained_70 : decode cX12_trained 70 = .ok (.iload 7, 2) := by decide +kernel
theorem dX12_trained_72 : decode cX12_trained 72 = .ok (.iload 5, 2) := by decide +kernel
theorem dX12_trained_74 : decode cX12_trained 74 = .ok (.if_icmp .ge 27, 3) := by decide +kernel
theorem dX12_trained_77 : decode cX12_trained 77 = .ok (.iload 6, 2) := by decide +kernel
theorem dX12_trained_79 : decode cX12_trained 79 = .ok (.aload_n 0, 1) := by decide +kernel
theorem dX12_trained_80 : decode cX12_trained 80 = .ok (.getfield 45, 3) := by decide +kernel
theorem dX12_trained_83 : decode cX12_trained 83 = .ok (.iload 7, 2) := by decide +kernel
theorem dX12_trained_85 : decode cX12_trained 85 = .ok (.iaload, 1) := by decide +kernel
theorem dX12_trained_86 : decode cX12_trained 86 = .ok (.sipush 1001, 3) := by decide +kernel
theorem dX12_trained_89 : decode cX12_trained 89 = .ok (.idiv, 1) := by decide +kernel
theorem dX12_trained_90 : decode cX12_trained 90 = .ok (.invokestatic 68, 3) := by decide +kernel
theorem dX12_trained_93 : decode cX12_trained 93 = .ok (.istore 6, 2) := by decide +kernel
theorem dX12_trained_95 : decode cX12_trained 95 = .ok (.iinc 7 1, 3) := by decide +kernel
theorem dX12_trained_98 : decode cX12_trained 98 = .ok (.goto (-28), 3) := by decide +kernel
theorem dX12_trained_101 : decode cX12_trained 101 = .ok (.iload 6, 2) := by decide +kernel
theorem dX12_trained_103 : decode cX12_trained 103 = .ok (.ireturn, 1) := by decide +kernel
theorem dX12_train_0 : decode cX12_train 0 = .ok (.aload_n 0, 1) := by decide +kernel
theorem dX12_train_1 : decode cX12_train 1 = .ok (.iload_n 1, 1) := by decide +kernel
theorem dX12_train_2 : decode cX12_train 2 = .ok (.invokevirtual 87, 3) := by decide +kernel
theorem dX12_train_5 : decode cX12_train 5 = .ok (.ifCond .eq 34, 3) := by decide +kernel
theorem dX12_train_8 : decode cX12_train 8 = .ok (.iload_n 2, 1) := by decide +kernel
theorem dX12_train_9 : decode cX12_train 9 = .ok (.iconst 1, 1) := by decide +kernel
theorem dX12_train_10 : decode cX12_train 10 = .ok (.bipush 12, 2) := by decide +kernel
theorem dX12_train_12 : decode cX12_train 12 = .ok (.invokestatic 71, 3) := by decide +kernel
theorem dX12_train_15 : decode cX12_train 15 = .ok (.ifCond .eq 24, 3) := by decide +kernel
theorem dX12_train_18 : decode cX12_train 18 = .ok (.iload_n 3, 1) := by decide +kernel
theorem dX12_train_19 : decode cX12_train 19 = .ok (.iconst 0, 1) := by decide +kernel
theorem dX12_train_20 : decode cX12_train 20 = .ok (.sipush 1000, 3) := by decide +kernel
theorem dX12_train_23 : decode cX12_train 23 = .ok (.invokestatic 71, 3) := by decide +kernel
theorem dX12_train_26 : decode cX12_train 26 = .ok (.ifCond .eq 13, 3) := by decide +kernel
theorem dX12_train_29 : decode cX12_train 29 = .ok (.iload 4, 2) := by decide +kernel
theorem dX12_train_31 : decode cX12_train 31 = .ok (.iconst 0, 1) := by decide +kernel
theorem dX12_train_32 : decode cX12_train 32 = .ok (.iconst 1, 1) := by decide +kernel
theorem dX12_train_33 : decode cX12_train 33 = .ok (.invokestatic 71, 3) := by decide +kernel
theorem dX12_train_36 : decode cX12_train 36 = .ok (.ifCond .ne 5, 3) := by decide +kernel
theorem dX12_train_39 : decode cX12_train 39 = .ok (.iconst (-1), 1) := by decide +kernel
theorem dX12_train_40 : decode cX12_train 40 = .ok (.ireturn, 1) := by decide +kernel
theorem dX12_train_41 : decode cX12_train 41 = .ok (.iconst (-1), 1) := by decide +kernel
theorem dX12_train_42 : decode cX12_train 42 = .ok (.istore 5, 2) := by decide +kernel
theorem dX12_train_44 : decode cX12_train 44 = .ok (.iconst (-1), 1) := by decide +kernel
theorem dX12_train_45 : decode cX12_train 45 = .ok (.istore 6, 2) := by decide +kernel
theorem dX12_train_47 : decode cX12_train 47 = .ok (.iconst 0, 1) := by decide +kernel
theorem dX12_train_48 : decode cX12_train 48 = .ok (.istore 7, 2) := by decide +kernel
theorem dX12_train_50 : decode cX12_train 50 = .ok (.iload 7, 2) := by decide +kernel
theorem dX12_train_52 : decode cX12_train 52 = .ok (.iconst 4, 1) := by decide +kernel
theorem dX12_train_53 : decode cX12_train 53 = .ok (.if_icmp .ge 38, 3) := by decide +kernel
theorem dX12_train_56 : decode cX12_train 56 = .ok (.aload_n 0, 1) := by decide +kernel
theorem dX12_train_57 : decode cX12_train 57 = .ok (.iload_n 1, 1) := by decide +kernel
theorem dX12_train_58 : decode cX12_train 58 = .ok (.iload_n 2, 1) := by decide +kernel
theorem dX12_train_59 : decode cX12_train 59 = .ok (.iload_n 3, 1) := by decide +kernel
theorem dX12_train_60 : decode cX12_train 60 = .ok (.iload 7, 2) := by decide +kernel
theorem dX12_train_62 : decode cX12_train 62 = .ok (.invokevirtual 477, 3) := by decide +kernel
theorem dX12_train_65 : decode cX12_train 65 = .ok (.istore 8, 2) := by decide +kernel
theorem dX12_train_67 : decode cX12_train 67 = .ok (.iload 8, 2) := by decide +kernel
theorem dX12_train_69 : decode cX12_train 69 = .ok (.iload 5, 2) := by decide +kernel
theorem dX12_train_71 : decode cX12_train 71 = .ok (.if_icmp .gt 6, 3) := by decide +kernel
theorem dX12_train_74 : decode cX12_train 74 = .ok (.goto 11, 3) := by decide +kernel
theorem dX12_train_77 : decode cX12_train 77 = .ok (.iload 8, 2) := by decide +kernel
theorem dX12_train_79 : decode cX12_train 79 = .ok (.istore 5, 2) := by decide +kernel
theorem dX12_train_81 : decode cX12_train 81 = .ok (.iload 7, 2) := by decide +kernel
theorem dX12_train_83 : decode cX12_train 83 = .ok (.istore 6, 2) := by decide +kernel
theorem dX12_train_85 : decode cX12_train 85 = .ok (.iinc 7 1, 3) := by decide +kernel
theorem dX12_train_88 : decode cX12_train 88 = .ok (.goto (-38), 3) := by decide +kernel
theorem dX12_train_91 : decode cX12_train 91 = .ok (.iload 4, 2) := by decide +kernel
theorem dX12_train_93 : decode cX12_train 93 = .ok (.ifCond .ne 8, 3) := by decide +kernel
theorem dX12_train_96 : decode cX12_train 96 = .ok (.iload 5, 2) := by decide +kernel
theorem dX12_train_98 : decode cX12_train 98 = .ok (.goto 5, 3) := by decide +kernel
theorem dX12_train_101 : decode cX12_train 101 = .ok (.iload 6, 2) := by decide +kernel
theorem dX12_train_103 : decode cX12_train 103 = .ok (.ireturn, 1) := by decide +kernel
theorem dX12_holds_0 : decode cX12_holds 0 = .ok (.aload_n 0, 1) := by decide +kernel
theorem dX12_holds_1 : decode cX12_holds 1 = .ok (.iload_n 1, 1) := by decide +kernel
theorem dX12_holds_2 : decode cX12_holds 2 = .ok (.invokevirtual 87, 3) := by decide +kernel
theorem dX12_holds_5 : decode cX12_holds 5 = .ok (.ifCond .eq 20, 3) := by decide +kernel
theorem dX12_holds_8 : decode cX12_holds 8 = .ok (.iload_n 2, 1) := by decide +kernel
theorem dX12_holds_9 : decode cX12_holds 9 = .ok (.invokestatic 440, 3) := by decide +kernel
theorem dX12_holds_12 : decode cX12_holds 12 = .ok (.ifCond .eq 13, 3) := by decide +kernel
theorem dX12_holds_15 : decode cX12_holds 15 = .ok (.iload_n 3, 1) := by decide +kernel
theorem dX12_holds_16 : decode cX12_holds 16 = .ok (.iconst 0, 1) := by decide +kernel
theorem dX12_holds_17 : decode cX12_holds 17 = .ok (.bipush 60, 2) := by decide +kernel
theorem dX12_holds_19 : decode cX12_holds 19 = .ok (.invokestatic 71, 3) := by decide +kernel
theorem dX12_holds_22 : decode cX12_holds 22 = .ok (.ifCond .ne 5, 3) := by decide +kernel
theorem dX12_holds_25 : decode cX12_holds 25 = .ok (.iconst (-1), 1) := by decide +kernel
theorem dX12_holds_26 : decode cX12_holds 26 = .ok (.ireturn, 1) := by decide +kernel
theorem dX12_holds_27 : decode cX12_holds 27 = .ok (.aload_n 0, 1) := by decide +kernel
theorem dX12_holds_28 : decode cX12_holds 28 = .ok (.iload_n 1, 1) := by decide +kernel
theorem dX12_holds_29 : decode cX12_holds 29 = .ok (.iconst 1, 1) := by decide +kernel
theorem dX12_holds_30 : decode cX12_holds 30 = .ok (.invokevirtual 324, 3) := by decide +kernel
theorem dX12_holds_33 : decode cX12_holds 33 = .ok (.istore 4, 2) := by decide +kernel
theorem dX12_holds_35 : decode cX12_holds 35 = .ok (.iconst 0, 1) := by decide +kernel
theorem dX12_holds_36 : decode cX12_holds 36 = .ok (.istore 5, 2) := by decide +kernel
theorem dX12_holds_38 : decode cX12_holds 38 = .ok (.iload 5, 2) := by decide +kernel
theorem dX12_holds_40 : decode cX12_holds 40 = .ok (.bipush 60, 2) := by decide +kernel
theorem dX12_holds_42 : decode cX12_holds 42 = .ok (.if_icmp .ge 60, 3) := by decide +kernel
theorem dX12_holds_45 : decode cX12_holds 45 = .ok (.iload 4, 2) := by decide +kernel
theorem dX12_holds_47 : decode cX12_holds 47 = .ok (.sipush 1000, 3) := by decide +kernel
theorem dX12_holds_50 : decode cX12_holds 50 = .ok (.if_icmp .ge 52, 3) := by decide +kernel
theorem dX12_holds_53 : decode cX12_holds 53 = .ok (.aload_n 0, 1) := by decide +kernel
theorem dX12_holds_54 : decode cX12_holds 54 = .ok (.iload_n 1, 1) := by decide +kernel
theorem dX12_holds_55 : decode cX12_holds 55 = .ok (.iload_n 2, 1) := by decide +kernel
theorem dX12_holds_56 : decode cX12_holds 56 = .ok (.aload_n 0, 1) := by decide +kernel
theorem dX12_holds_57 : decode cX12_holds 57 = .ok (.iload_n 1, 1) := by decide +kernel
theorem dX12_holds_58 : decode cX12_holds 58 = .ok (.iconst 0, 1) := by decide +kernel
theorem dX12_holds_59 : decode cX12_holds 59 = .ok (.invokevirtual 324, 3) := by decide +kernel
theorem dX12_holds_62 : decode cX12_holds 62 = .ok (.invokestatic 64, 3) := by decide +kernel
theorem dX12_holds_65 : decode cX12_holds 65 = .ok (.iconst 0, 1) := by decide +kernel
theorem dX12_holds_66 : decode cX12_holds 66 = .ok (.iload_n 3, 1) := by decide +kernel
theorem dX12_holds_67 : decode cX12_holds 67 = .ok (.iload 4, 2) := by decide +kernel
theorem dX12_holds_69 : decode cX12_holds 69 = .ok (.aload_n 0, 1) := by decide +kernel
theorem dX12_holds_70 : decode cX12_holds 70 = .ok (.iload_n 1, 1) := by decide +kernel
theorem dX12_holds_71 : decode cX12_holds 71 = .ok (.iconst 3, 1) := by decide +kernel
theorem dX12_holds_72 : decode cX12_holds 72 = .ok (.invokevirtual 324, 3) := by decide +kernel
theorem dX12_holds_75 : decode cX12_holds 75 = .ok (.iload 5, 2) := by decide +kernel
theorem dX12_holds_77 : decode cX12_holds 77 = .ok (.iadd, 1) := by decide +kernel
theorem dX12_holds_78 : decode cX12_holds 78 = .ok (.invokevirtual 376, 3) := by decide +kernel
theorem dX12_holds_81 : decode cX12_holds 81 = .ok (.sipush 1000, 3) := by decide +kernel
theorem dX12_holds_84 : decode cX12_holds 84 = .ok (.iload 4, 2) := by decide +kernel
theorem dX12_holds_86 : decode cX12_holds 86 = .ok (.aload_n 0, 1) := by decide +kernel
theorem dX12_holds_87 : decode cX12_holds 87 = .ok (.invokevirtual 383, 3) := by decide +kernel
theorem dX12_holds_90 : decode cX12_holds 90 = .ok (.iadd, 1) := by decide +kernel
theorem dX12_holds_91 : decode cX12_holds 91 = .ok (.invokestatic 64, 3) := by decide +kernel
theorem dX12_holds_94 : decode cX12_holds 94 = .ok (.istore 4, 2) := by decide +kernel
theorem dX12_holds_96 : decode cX12_holds 96 = .ok (.iinc 5 1, 3) := by decide +kernel
theorem dX12_holds_99 : decode cX12_holds 99 = .ok (.goto (-61), 3) := by decide +kernel
theorem dX12_holds_102 : decode cX12_holds 102 = .ok (.iload 5, 2) := by decide +kernel
theorem dX12_holds_104 : decode cX12_holds 104 = .ok (.ireturn, 1) := by decide +kernel
theorem dX12_laysReached_0 : decode cX12_laysReached 0 = .ok (.iconst 0, 1) := by decide +kernel
theorem dX12_laysReached_1 : decode cX12_laysReached 1 = .ok (.istore 4, 2) := by decide +kernel
theorem dX12_laysReached_3 : decode cX12_laysReached 3 = .ok (.iload 4, 2) := by decide +kernel
theorem dX12_laysReached_5 : decode cX12_laysReached 5 = .ok (.bipush 10, 2) := by decide +kernel
theorem dX12_laysReached_7 : decode cX12_laysReached 7 = .ok (.if_icmp .ge 53, 3) := by decide +kernel
theorem dX12_laysReached_10 : decode cX12_laysReached 10 = .ok (.aload_n 0, 1) := by decide +kernel
theorem dX12_laysReached_11 : decode cX12_laysReached 11 = .ok (.bipush 54, 2) := by decide +kernel
theorem dX12_laysReached_13 : decode cX12_laysReached 13 = .ok (.iconst 5, 1) := by decide +kernel
theorem dX12_laysReached_14 : decode cX12_laysReached 14 = .ok (.iload 4, 2) := by decide +kernel
theorem dX12_laysReached_16 : decode cX12_laysReached 16 = .ok (.imul, 1) := by decide +kernel
theorem dX12_laysReached_17 : decode cX12_laysReached 17 = .ok (.iadd, 1) := by decide +kernel
theorem dX12_laysReached_18 : decode cX12_laysReached 18 = .ok (.iload_n 2, 1) := by decide +kernel
theorem dX12_laysReached_19 : decode cX12_laysReached 19 = .ok (.iload_n 3, 1) := by decide +kernel
theorem dX12_laysReached_20 : decode cX12_laysReached 20 = .ok (.aload_n 0, 1) := by decide +kernel
theorem dX12_laysReached_21 : decode cX12_laysReached 21 = .ok (.iconst 0, 1) := by decide +kernel
theorem dX12_laysReached_22 : decode cX12_laysReached 22 = .ok (.invokevirtual 364, 3) := by decide +kernel
theorem dX12_laysReached_25 : decode cX12_laysReached 25 = .ok (.invokevirtual 434, 3) := by decide +kernel
theorem dX12_laysReached_28 : decode cX12_laysReached 28 = .ok (.istore 5, 2) := by decide +kernel
theorem dX12_laysReached_30 : decode cX12_laysReached 30 = .ok (.aload_n 0, 1) := by decide +kernel
theorem dX12_laysReached_31 : decode cX12_laysReached 31 = .ok (.getfield 61, 3) := by decide +kernel
theorem dX12_laysReached_34 : decode cX12_laysReached 34 = .ok (.iload 4, 2) := by decide +kernel
theorem dX12_laysReached_36 : decode cX12_laysReached 36 = .ok (.iload 5, 2) := by decide +kernel
theorem dX12_laysReached_38 : decode cX12_laysReached 38 = .ok (.iconst (-1), 1) := by decide +kernel
theorem dX12_laysReached_39 : decode cX12_laysReached 39 = .ok (.if_icmp .eq 13, 3) := by decide +kernel
theorem dX12_laysReached_42 : decode cX12_laysReached 42 = .ok (.iload 5, 2) := by decide +kernel
theorem dX12_laysReached_44 : decode cX12_laysReached 44 = .ok (.iload_n 1, 1) := by decide +kernel
theorem dX12_laysReached_45 : decode cX12_laysReached 45 = .ok (.if_icmp .lt 7, 3) := by decide +kernel
theorem dX12_laysReached_48 : decode cX12_laysReached 48 = .ok (.iconst 1, 1) := by decide +kernel
theorem dX12_laysReached_49 : decode cX12_laysReached 49 = .ok (.goto 4, 3) := by decide +kernel
theorem dX12_laysReached_52 : decode cX12_laysReached 52 = .ok (.iconst 0, 1) := by decide +kernel
theorem dX12_laysReached_53 : decode cX12_laysReached 53 = .ok (.iastore, 1) := by decide +kernel
theorem dX12_laysReached_54 : decode cX12_laysReached 54 = .ok (.iinc 4 1, 3) := by decide +kernel
theorem dX12_laysReached_57 : decode cX12_laysReached 57 = .ok (.goto (-54), 3) := by decide +kernel
theorem dX12_laysReached_60 : decode cX12_laysReached 60 = .ok (.return_, 1) := by decide +kernel
theorem dX12_chanceBy_0 : decode cX12_chanceBy 0 = .ok (.iload_n 2, 1) := by decide +kernel
theorem dX12_chanceBy_1 : decode cX12_chanceBy 1 = .ok (.ifCond .eq 11, 3) := by decide +kernel
theorem dX12_chanceBy_4 : decode cX12_chanceBy 4 = .ok (.iload 4, 2) := by decide +kernel
theorem dX12_chanceBy_6 : decode cX12_chanceBy 6 = .ok (.sipush 1000, 3) := by decide +kernel
theorem dX12_chanceBy_9 : decode cX12_chanceBy 9 = .ok (.if_icmp .ne 5, 3) := by decide +kernel
theorem dX12_chanceBy_12 : decode cX12_chanceBy 12 = .ok (.iconst 0, 1) := by decide +kernel
theorem dX12_chanceBy_13 : decode cX12_chanceBy 13 = .ok (.ireturn, 1) := by decide +kernel
theorem dX12_chanceBy_14 : decode cX12_chanceBy 14 = .ok (.sipush 1001, 3) := by decide +kernel
theorem dX12_chanceBy_17 : decode cX12_chanceBy 17 = .ok (.iload_n 2, 1) := by decide +kernel
theorem dX12_chanceBy_18 : decode cX12_chanceBy 18 = .ok (.imul, 1) := by decide +kernel
theorem dX12_chanceBy_19 : decode cX12_chanceBy 19 = .ok (.iload 4, 2) := by decide +kernel
theorem dX12_chanceBy_21 : decode cX12_chanceBy 21 = .ok (.iadd, 1) := by decide +kernel
theorem dX12_chanceBy_22 : decode cX12_chanceBy 22 = .ok (.istore 6, 2) := by decide +kernel
theorem dX12_chanceBy_24 : decode cX12_chanceBy 24 = .ok (.aload_n 0, 1) := by decide +kernel
theorem dX12_chanceBy_25 : decode cX12_chanceBy 25 = .ok (.getfield 55, 3) := by decide +kernel
theorem dX12_chanceBy_28 : decode cX12_chanceBy 28 = .ok (.iload 6, 2) := by decide +kernel
theorem dX12_chanceBy_30 : decode cX12_chanceBy 30 = .ok (.iaload, 1) := by decide +kernel
theorem dX12_chanceBy_31 : decode cX12_chanceBy 31 = .ok (.iconst (-1), 1) := by decide +kernel
theorem dX12_chanceBy_32 : decode cX12_chanceBy 32 = .ok (.if_icmp .eq 11, 3) := by decide +kernel
theorem dX12_chanceBy_35 : decode cX12_chanceBy 35 = .ok (.aload_n 0, 1) := by decide +kernel
theorem dX12_chanceBy_36 : decode cX12_chanceBy 36 = .ok (.getfield 55, 3) := by decide +kernel
theorem dX12_chanceBy_39 : decode cX12_chanceBy 39 = .ok (.iload 6, 2) := by decide +kernel
theorem dX12_chanceBy_41 : decode cX12_chanceBy 41 = .ok (.iaload, 1) := by decide +kernel
theorem dX12_chanceBy_42 : decode cX12_chanceBy 42 = .ok (.ireturn, 1) := by decide +kernel
theorem dX12_chanceBy_43 : decode cX12_chanceBy 43 = .ok (.iconst 0, 1) := by decide +kernel
theorem dX12_chanceBy_44 : decode cX12_chanceBy 44 = .ok (.istore 7, 2) := by decide +kernel
theorem dX12_chanceBy_46 : decode cX12_chanceBy 46 = .ok (.iconst 0, 1) := by decide +kernel
theorem dX12_chanceBy_47 : decode cX12_chanceBy 47 = .ok (.istore 8, 2) := by decide +kernel
theorem dX12_chanceBy_49 : decode cX12_chanceBy 49 = .ok (.bipush 54, 2) := by decide +kernel
theorem dX12_chanceBy_51 : decode cX12_chanceBy 51 = .ok (.istore 9, 2) := by decide +kernel
theorem dX12_chanceBy_53 : decode cX12_chanceBy 53 = .ok (.iload 9, 2) := by decide +kernel
theorem dX12_chanceBy_55 : decode cX12_chanceBy 55 = .ok (.bipush 99, 2) := by decide +kernel
theorem dX12_chanceBy_57 : decode cX12_chanceBy 57 = .ok (.aload_n 0, 1) := by decide +kernel
theorem dX12_chanceBy_58 : decode cX12_chanceBy 58 = .ok (.iload_n 1, 1) := by decide +kernel
theorem dX12_chanceBy_59 : decode cX12_chanceBy 59 = .ok (.iconst 0, 1) := by decide +kernel
theorem dX12_chanceBy_60 : decode cX12_chanceBy 60 = .ok (.invokevirtual 324, 3) := by decide +kernel
theorem dX12_chanceBy_63 : decode cX12_chanceBy 63 = .ok (.invokestatic 64, 3) := by decide +kernel
theorem dX12_chanceBy_66 : decode cX12_chanceBy 66 = .ok (.if_icmp .gt 138, 3) := by decide +kernel
theorem dX12_chanceBy_69 : decode cX12_chanceBy 69 = .ok (.aload_n 0, 1) := by decide +kernel
theorem dX12_chanceBy_70 : decode cX12_chanceBy 70 = .ok (.iload_n 1, 1) := by decide +kernel
theorem dX12_chanceBy_71 : decode cX12_chanceBy 71 = .ok (.iload 9, 2) := by decide +kernel
theorem dX12_chanceBy_73 : decode cX12_chanceBy 73 = .ok (.iconst 0, 1) := by decide +kernel
theorem dX12_chanceBy_74 : decode cX12_chanceBy 74 = .ok (.iload 5, 2) := by decide +kernel
theorem dX12_chanceBy_76 : decode cX12_chanceBy 76 = .ok (.iload 4, 2) := by decide +kernel
theorem dX12_chanceBy_78 : decode cX12_chanceBy 78 = .ok (.aload_n 0, 1) := by decide +kernel
theorem dX12_chanceBy_79 : decode cX12_chanceBy 79 = .ok (.iload_n 1, 1) := by decide +kernel
theorem dX12_chanceBy_80 : decode cX12_chanceBy 80 = .ok (.iconst 3, 1) := by decide +kernel
theorem dX12_chanceBy_81 : decode cX12_chanceBy 81 = .ok (.invokevirtual 324, 3) := by decide +kernel
theorem dX12_chanceBy_84 : decode cX12_chanceBy 84 = .ok (.iload_n 3, 1) := by decide +kernel
theorem dX12_chanceBy_85 : decode cX12_chanceBy 85 = .ok (.iadd, 1) := by decide +kernel
theorem dX12_chanceBy_86 : decode cX12_chanceBy 86 = .ok (.iload_n 2, 1) := by decide +kernel
theorem dX12_chanceBy_87 : decode cX12_chanceBy 87 = .ok (.isub, 1) := by decide +kernel
theorem dX12_chanceBy_88 : decode cX12_chanceBy 88 = .ok (.invokevirtual 376, 3) := by decide +kernel
theorem dX12_chanceBy_91 : decode cX12_chanceBy 91 = .ok (.aload_n 0, 1) := by decide +kernel
theorem dX12_chanceBy_92 : decode cX12_chanceBy 92 = .ok (.invokevirtual 380, 3) := by decide +kernel
theorem dX12_chanceBy_95 : decode cX12_chanceBy 95 = .ok (.istore 10, 2) := by decide +kernel
theorem dX12_chanceBy_97 : decode cX12_chanceBy 97 = .ok (.sipush 1000, 3) := by decide +kernel
theorem dX12_chanceBy_100 : decode cX12_chanceBy 100 = .ok (.iload 4, 2) := by decide +kernel
theorem dX12_chanceBy_102 : decode cX12_chanceBy 102 = .ok (.aload_n 0, 1) := by decide +kernel
theorem dX12_chanceBy_103 : decode cX12_chanceBy 103 = .ok (.invokevirtual 383, 3) := by decide +kernel
theorem dX12_chanceBy_106 : decode cX12_chanceBy 106 = .ok (.iadd, 1) := by decide +kernel
theorem dX12_chanceBy_107 : decode cX12_chanceBy 107 = .ok (.invokestatic 64, 3) := by decide +kernel
theorem dX12_chanceBy_110 : decode cX12_chanceBy 110 = .ok (.istore 11, 2) := by decide +kernel
theorem dX12_chanceBy_112 : decode cX12_chanceBy 112 = .ok (.aload_n 0, 1) := by decide +kernel
theorem dX12_chanceBy_113 : decode cX12_chanceBy 113 = .ok (.getfield 61, 3) := by decide +kernel
theorem dX12_chanceBy_116 : decode cX12_chanceBy 116 = .ok (.iload 9, 2) := by decide +kernel
theorem dX12_chanceBy_118 : decode cX12_chanceBy 118 = .ok (.bipush 54, 2) := by decide +kernel
theorem dX12_chanceBy_120 : decode cX12_chanceBy 120 = .ok (.isub, 1) := by decide +kernel
theorem dX12_chanceBy_121 : decode cX12_chanceBy 121 = .ok (.iconst 5, 1) := by decide +kernel
theorem dX12_chanceBy_122 : decode cX12_chanceBy 122 = .ok (.idiv, 1) := by decide +kernel
theorem dX12_chanceBy_123 : decode cX12_chanceBy 123 = .ok (.iaload, 1) := by decide +kernel
theorem dX12_chanceBy_124 : decode cX12_chanceBy 124 = .ok (.iconst 1, 1) := by decide +kernel
theorem dX12_chanceBy_125 : decode cX12_chanceBy 125 = .ok (.if_icmp .ne 16, 3) := by decide +kernel
theorem dX12_chanceBy_128 : decode cX12_chanceBy 128 = .ok (.ldc_w 480, 3) := by decide +kernel
theorem dX12_chanceBy_131 : decode cX12_chanceBy 131 = .ok (.sipush 1000, 3) := by decide +kernel
theorem dX12_chanceBy_134 : decode cX12_chanceBy 134 = .ok (.iload 10, 2) := by decide +kernel
theorem dX12_chanceBy_136 : decode cX12_chanceBy 136 = .ok (.imul, 1) := by decide +kernel
theorem dX12_chanceBy_137 : decode cX12_chanceBy 137 = .ok (.isub, 1) := by decide +kernel
theorem dX12_chanceBy_138 : decode cX12_chanceBy 138 = .ok (.goto 4, 3) := by decide +kernel
theorem dX12_chanceBy_141 : decode cX12_chanceBy 141 = .ok (.iconst 0, 1) := by decide +kernel
theorem dX12_chanceBy_142 : decode cX12_chanceBy 142 = .ok (.istore 12, 2) := by decide +kernel
theorem dX12_chanceBy_144 : decode cX12_chanceBy 144 = .ok (.ldc_w 480, 3) := by decide +kernel
theorem dX12_chanceBy_147 : decode cX12_chanceBy 147 = .ok (.iload 12, 2) := by decide +kernel
theorem dX12_chanceBy_149 : decode cX12_chanceBy 149 = .ok (.isub, 1) := by decide +kernel
theorem dX12_chanceBy_150 : decode cX12_chanceBy 150 = .ok (.i2l, 1) := by decide +kernel
theorem dX12_chanceBy_151 : decode cX12_chanceBy 151 = .ok (.aload_n 0, 1) := by decide +kernel
theorem dX12_chanceBy_152 : decode cX12_chanceBy 152 = .ok (.iload_n 1, 1) := by decide +kernel
theorem dX12_chanceBy_153 : decode cX12_chanceBy 153 = .ok (.iload_n 2, 1) := by decide +kernel
theorem dX12_chanceBy_154 : decode cX12_chanceBy 154 = .ok (.iconst 1, 1) := by decide +kernel
theorem dX12_chanceBy_155 : decode cX12_chanceBy 155 = .ok (.isub, 1) := by decide +kernel
theorem dX12_chanceBy_156 : decode cX12_chanceBy 156 = .ok (.iload_n 3, 1) := by decide +kernel
theorem dX12_chanceBy_157 : decode cX12_chanceBy 157 = .ok (.iload 11, 2) := by decide +kernel
theorem dX12_chanceBy_159 : decode cX12_chanceBy 159 = .ok (.iload 5, 2) := by decide +kernel
theorem dX12_chanceBy_161 : decode cX12_chanceBy 161 = .ok (.invokevirtual 481, 3) := by decide +kernel
theorem dX12_chanceBy_164 : decode cX12_chanceBy 164 = .ok (.i2l, 1) := by decide +kernel
theorem dX12_chanceBy_165 : decode cX12_chanceBy 165 = .ok (.lmul, 1) := by decide +kernel
theorem dX12_chanceBy_166 : decode cX12_chanceBy 166 = .ok (.ldc2_w 484, 3) := by decide +kernel
theorem dX12_chanceBy_169 : decode cX12_chanceBy 169 = .ok (.ldiv, 1) := by decide +kernel
theorem dX12_chanceBy_170 : decode cX12_chanceBy 170 = .ok (.lstore 13, 2) := by decide +kernel
theorem dX12_chanceBy_172 : decode cX12_chanceBy 172 = .ok (.iload 12, 2) := by decide +kernel
theorem dX12_chanceBy_174 : decode cX12_chanceBy 174 = .ok (.lload 13, 2) := by decide +kernel
theorem dX12_chanceBy_176 : decode cX12_chanceBy 176 = .ok (.l2i, 1) := by decide +kernel
theorem dX12_chanceBy_177 : decode cX12_chanceBy 177 = .ok (.iadd, 1) := by decide +kernel
theorem dX12_chanceBy_178 : decode cX12_chanceBy 178 = .ok (.iload 7, 2) := by decide +kernel
theorem dX12_chanceBy_180 : decode cX12_chanceBy 180 = .ok (.if_icmp .gt 6, 3) := by decide +kernel
theorem dX12_chanceBy_183 : decode cX12_chanceBy 183 = .ok (.goto 15, 3) := by decide +kernel
theorem dX12_chanceBy_186 : decode cX12_chanceBy 186 = .ok (.iload 12, 2) := by decide +kernel
theorem dX12_chanceBy_188 : decode cX12_chanceBy 188 = .ok (.lload 13, 2) := by decide +kernel
theorem dX12_chanceBy_190 : decode cX12_chanceBy 190 = .ok (.l2i, 1) := by decide +kernel
theorem dX12_chanceBy_191 : decode cX12_chanceBy 191 = .ok (.iadd, 1) := by decide +kernel
theorem dX12_chanceBy_192 : decode cX12_chanceBy 192 = .ok (.istore 7, 2) := by decide +kernel
theorem dX12_chanceBy_194 : decode cX12_chanceBy 194 = .ok (.iload 9, 2) := by decide +kernel
theorem dX12_chanceBy_196 : decode cX12_chanceBy 196 = .ok (.istore 8, 2) := by decide +kernel
theorem dX12_chanceBy_198 : decode cX12_chanceBy 198 = .ok (.iinc 9 5, 3) := by decide +kernel
theorem dX12_chanceBy_201 : decode cX12_chanceBy 201 = .ok (.goto (-148), 3) := by decide +kernel
theorem dX12_chanceBy_204 : decode cX12_chanceBy 204 = .ok (.aload_n 0, 1) := by decide +kernel
theorem dX12_chanceBy_205 : decode cX12_chanceBy 205 = .ok (.getfield 55, 3) := by decide +kernel
theorem dX12_chanceBy_208 : decode cX12_chanceBy 208 = .ok (.iload 6, 2) := by decide +kernel
theorem dX12_chanceBy_210 : decode cX12_chanceBy 210 = .ok (.iload 7, 2) := by decide +kernel
theorem dX12_chanceBy_212 : decode cX12_chanceBy 212 = .ok (.iastore, 1) := by decide +kernel
theorem dX12_chanceBy_213 : decode cX12_chanceBy 213 = .ok (.aload_n 0, 1) := by decide +kernel
theorem dX12_chanceBy_214 : decode cX12_chanceBy 214 = .ok (.getfield 58, 3) := by decide +kernel
theorem dX12_chanceBy_217 : decode cX12_chanceBy 217 = .ok (.iload 6, 2) := by decide +kernel
theorem dX12_chanceBy_219 : decode cX12_chanceBy 219 = .ok (.iload 8, 2) := by decide +kernel
theorem dX12_chanceBy_221 : decode cX12_chanceBy 221 = .ok (.iastore, 1) := by decide +kernel
theorem dX12_chanceBy_222 : decode cX12_chanceBy 222 = .ok (.iload 7, 2) := by decide +kernel
theorem dX12_chanceBy_224 : decode cX12_chanceBy 224 = .ok (.ireturn, 1) := by decide +kernel
theorem dX12_chance_0 : decode cX12_chance 0 = .ok (.aload_n 0, 1) := by decide +kernel
theorem dX12_chance_1 : decode cX12_chance 1 = .ok (.iload_n 1, 1) := by decide +kernel
theorem dX12_chance_2 : decode cX12_chance 2 = .ok (.invokevirtual 87, 3) := by decide +kernel
theorem dX12_chance_5 : decode cX12_chance 5 = .ok (.ifCond .eq 43, 3) := by decide +kernel
theorem dX12_chance_8 : decode cX12_chance 8 = .ok (.iload_n 3, 1) := by decide +kernel
theorem dX12_chance_9 : decode cX12_chance 9 = .ok (.iconst 0, 1) := by decide +kernel
theorem dX12_chance_10 : decode cX12_chance 10 = .ok (.bipush 6, 2) := by decide +kernel
theorem dX12_chance_12 : decode cX12_chance 12 = .ok (.invokestatic 71, 3) := by decide +kernel
theorem dX12_chance_15 : decode cX12_chance 15 = .ok (.ifCond .eq 33, 3) := by decide +kernel
theorem dX12_chance_18 : decode cX12_chance 18 = .ok (.iload 4, 2) := by decide +kernel
theorem dX12_chance_20 : decode cX12_chance 20 = .ok (.iconst 0, 1) := by decide +kernel
theorem dX12_chance_21 : decode cX12_chance 21 = .ok (.bipush 60, 2) := by decide +kernel
theorem dX12_chance_23 : decode cX12_chance 23 = .ok (.invokestatic 71, 3) := by decide +kernel
theorem dX12_chance_26 : decode cX12_chance 26 = .ok (.ifCond .eq 22, 3) := by decide +kernel
theorem dX12_chance_29 : decode cX12_chance 29 = .ok (.aload_n 0, 1) := by decide +kernel
theorem dX12_chance_30 : decode cX12_chance 30 = .ok (.iload 5, 2) := by decide +kernel
theorem dX12_chance_32 : decode cX12_chance 32 = .ok (.invokevirtual 401, 3) := by decide +kernel
theorem dX12_chance_35 : decode cX12_chance 35 = .ok (.ifCond .eq 13, 3) := by decide +kernel
theorem dX12_chance_38 : decode cX12_chance 38 = .ok (.iload 6, 2) := by decide +kernel
theorem dX12_chance_40 : decode cX12_chance 40 = .ok (.iconst 0, 1) := by decide +kernel
theorem dX12_chance_41 : decode cX12_chance 41 = .ok (.iconst 1, 1) := by decide +kernel
theorem dX12_chance_42 : decode cX12_chance 42 = .ok (.invokestatic 71, 3) := by decide +kernel
theorem dX12_chance_45 : decode cX12_chance 45 = .ok (.ifCond .ne 5, 3) := by decide +kernel
theorem dX12_chance_48 : decode cX12_chance 48 = .ok (.iconst (-1), 1) := by decide +kernel
theorem dX12_chance_49 : decode cX12_chance 49 = .ok (.ireturn, 1) := by decide +kernel
theorem dX12_chance_50 : decode cX12_chance 50 = .ok (.aload_n 0, 1) := by decide +kernel
theorem dX12_chance_51 : decode cX12_chance 51 = .ok (.iload_n 2, 1) := by decide +kernel
theorem dX12_chance_52 : decode cX12_chance 52 = .ok (.iload 4, 2) := by decide +kernel
theorem dX12_chance_54 : decode cX12_chance 54 = .ok (.iload 5, 2) := by decide +kernel
theorem dX12_chance_56 : decode cX12_chance 56 = .ok (.invokevirtual 486, 3) := by decide +kernel
theorem dX12_chance_59 : decode cX12_chance 59 = .ok (.iconst 0, 1) := by decide +kernel
theorem dX12_chance_60 : decode cX12_chance 60 = .ok (.istore 7, 2) := by decide +kernel
theorem dX12_chance_62 : decode cX12_chance 62 = .ok (.iload 7, 2) := by decide +kernel
theorem dX12_chance_64 : decode cX12_chance 64 = .ok (.sipush 7007, 3) := by decide +kernel
theorem dX12_chance_67 : decode cX12_chance 67 = .ok (.if_icmp .ge 25, 3) := by decide +kernel
theorem dX12_chance_70 : decode cX12_chance 70 = .ok (.aload_n 0, 1) := by decide +kernel
theorem dX12_chance_71 : decode cX12_chance 71 = .ok (.getfield 55, 3) := by decide +kernel
theorem dX12_chance_74 : decode cX12_chance 74 = .ok (.iload 7, 2) := by decide +kernel
theorem dX12_chance_76 : decode cX12_chance 76 = .ok (.iconst (-1), 1) := by decide +kernel
theorem dX12_chance_77 : decode cX12_chance 77 = .ok (.iastore, 1) := by decide +kernel
theorem dX12_chance_78 : decode cX12_chance 78 = .ok (.aload_n 0, 1) := by decide +kernel
theorem dX12_chance_79 : decode cX12_chance 79 = .ok (.getfield 58, 3) := by decide +kernel
theorem dX12_chance_82 : decode cX12_chance 82 = .ok (.iload 7, 2) := by decide +kernel
theorem dX12_chance_84 : decode cX12_chance 84 = .ok (.iconst 0, 1) := by decide +kernel
theorem dX12_chance_85 : decode cX12_chance 85 = .ok (.iastore, 1) := by decide +kernel
theorem dX12_chance_86 : decode cX12_chance 86 = .ok (.iinc 7 1, 3) := by decide +kernel
theorem dX12_chance_89 : decode cX12_chance 89 = .ok (.goto (-27), 3) := by decide +kernel
theorem dX12_chance_92 : decode cX12_chance 92 = .ok (.aload_n 0, 1) := by decide +kernel
theorem dX12_chance_93 : decode cX12_chance 93 = .ok (.iload_n 1, 1) := by decide +kernel
theorem dX12_chance_94 : decode cX12_chance 94 = .ok (.iload_n 3, 1) := by decide +kernel
theorem dX12_chance_95 : decode cX12_chance 95 = .ok (.iload_n 3, 1) := by decide +kernel
theorem dX12_chance_96 : decode cX12_chance 96 = .ok (.aload_n 0, 1) := by decide +kernel
theorem dX12_chance_97 : decode cX12_chance 97 = .ok (.iload_n 1, 1) := by decide +kernel
theorem dX12_chance_98 : decode cX12_chance 98 = .ok (.iconst 1, 1) := by decide +kernel
theorem dX12_chance_99 : decode cX12_chance 99 = .ok (.invokevirtual 324, 3) := by decide +kernel
theorem dX12_chance_102 : decode cX12_chance 102 = .ok (.iload 4, 2) := by decide +kernel
theorem dX12_chance_104 : decode cX12_chance 104 = .ok (.invokevirtual 481, 3) := by decide +kernel
theorem dX12_chance_107 : decode cX12_chance 107 = .ok (.istore 7, 2) := by decide +kernel
theorem dX12_chance_109 : decode cX12_chance 109 = .ok (.iload 6, 2) := by decide +kernel
theorem dX12_chance_111 : decode cX12_chance 111 = .ok (.ifCond .ne 8, 3) := by decide +kernel
theorem dX12_chance_114 : decode cX12_chance 114 = .ok (.iload 7, 2) := by decide +kernel
theorem dX12_chance_116 : decode cX12_chance 116 = .ok (.goto 29, 3) := by decide +kernel
theorem dX12_chance_119 : decode cX12_chance 119 = .ok (.iload 7, 2) := by decide +kernel
theorem dX12_chance_121 : decode cX12_chance 121 = .ok (.ifCond .ne 7, 3) := by decide +kernel
theorem dX12_chance_124 : decode cX12_chance 124 = .ok (.iconst 0, 1) := by decide +kernel
theorem dX12_chance_125 : decode cX12_chance 125 = .ok (.goto 20, 3) := by decide +kernel
theorem dX12_chance_128 : decode cX12_chance 128 = .ok (.aload_n 0, 1) := by decide +kernel
theorem dX12_chance_129 : decode cX12_chance 129 = .ok (.getfield 58, 3) := by decide +kernel
theorem dX12_chance_132 : decode cX12_chance 132 = .ok (.sipush 1001, 3) := by decide +kernel
theorem dX12_chance_135 : decode cX12_chance 135 = .ok (.iload_n 3, 1) := by decide +kernel
theorem dX12_chance_136 : decode cX12_chance 136 = .ok (.imul, 1) := by decide +kernel
theorem dX12_chance_137 : decode cX12_chance 137 = .ok (.aload_n 0, 1) := by decide +kernel
theorem dX12_chance_138 : decode cX12_chance 138 = .ok (.iload_n 1, 1) := by decide +kernel
theorem dX12_chance_139 : decode cX12_chance 139 = .ok (.iconst 1, 1) := by decide +kernel
theorem dX12_chance_140 : decode cX12_chance 140 = .ok (.invokevirtual 324, 3) := by decide +kernel
theorem dX12_chance_143 : decode cX12_chance 143 = .ok (.iadd, 1) := by decide +kernel
theorem dX12_chance_144 : decode cX12_chance 144 = .ok (.iaload, 1) := by decide +kernel
theorem dX12_chance_145 : decode cX12_chance 145 = .ok (.ireturn, 1) := by decide +kernel
theorem dX12_gust_0 : decode cX12_gust 0 = .ok (.iload_n 1, 1) := by decide +kernel
theorem dX12_gust_1 : decode cX12_gust 1 = .ok (.bipush (-100), 2) := by decide +kernel
theorem dX12_gust_3 : decode cX12_gust 3 = .ok (.if_icmp .ne 13, 3) := by decide +kernel
theorem dX12_gust_6 : decode cX12_gust 6 = .ok (.aload_n 0, 1) := by decide +kernel
theorem dX12_gust_7 : decode cX12_gust 7 = .ok (.getfield 7, 3) := by decide +kernel
theorem dX12_gust_10 : decode cX12_gust 10 = .ok (.bipush 69, 2) := by decide +kernel
theorem dX12_gust_12 : decode cX12_gust 12 = .ok (.iconst 0, 1) := by decide +kernel
theorem dX12_gust_13 : decode cX12_gust 13 = .ok (.iastore, 1) := by decide +kernel
theorem dX12_gust_14 : decode cX12_gust 14 = .ok (.iconst 0, 1) := by decide +kernel
theorem dX12_gust_15 : decode cX12_gust 15 = .ok (.ireturn, 1) := by decide +kernel
theorem dX12_gust_16 : decode cX12_gust 16 = .ok (.iload_n 1, 1) := by decide +kernel
theorem dX12_gust_17 : decode cX12_gust 17 = .ok (.invokestatic 443, 3) := by decide +kernel
theorem dX12_gust_20 : decode cX12_gust 20 = .ok (.ifCond .eq 15, 3) := by decide +kernel
theorem dX12_gust_23 : decode cX12_gust 23 = .ok (.aload_n 0, 1) := by decide +kernel
theorem dX12_gust_24 : decode cX12_gust 24 = .ok (.getfield 7, 3) := by decide +kernel
theorem dX12_gust_27 : decode cX12_gust 27 = .ok (.bipush 69, 2) := by decide +kernel
theorem dX12_gust_29 : decode cX12_gust 29 = .ok (.iaload, 1) := by decide +kernel
theorem dX12_gust_30 : decode cX12_gust 30 = .ok (.bipush 60, 2) := by decide +kernel
theorem dX12_gust_32 : decode cX12_gust 32 = .ok (.if_icmp .ne 5, 3) := by decide +kernel
theorem dX12_gust_35 : decode cX12_gust 35 = .ok (.iconst (-1), 1) := by decide +kernel
theorem dX12_gust_36 : decode cX12_gust 36 = .ok (.ireturn, 1) := by decide +kernel
theorem dX12_gust_37 : decode cX12_gust 37 = .ok (.aload_n 0, 1) := by decide +kernel
theorem dX12_gust_38 : decode cX12_gust 38 = .ok (.getfield 7, 3) := by decide +kernel
theorem dX12_gust_41 : decode cX12_gust 41 = .ok (.bipush 90, 2) := by decide +kernel
theorem dX12_gust_43 : decode cX12_gust 43 = .ok (.aload_n 0, 1) := by decide +kernel
theorem dX12_gust_44 : decode cX12_gust 44 = .ok (.getfield 7, 3) := by decide +kernel
theorem dX12_gust_47 : decode cX12_gust 47 = .ok (.bipush 69, 2) := by decide +kernel
theorem dX12_gust_49 : decode cX12_gust 49 = .ok (.iaload, 1) := by decide +kernel
theorem dX12_gust_50 : decode cX12_gust 50 = .ok (.iadd, 1) := by decide +kernel
theorem dX12_gust_51 : decode cX12_gust 51 = .ok (.iload_n 1, 1) := by decide +kernel
theorem dX12_gust_52 : decode cX12_gust 52 = .ok (.iastore, 1) := by decide +kernel
theorem dX12_gust_53 : decode cX12_gust 53 = .ok (.aload_n 0, 1) := by decide +kernel
theorem dX12_gust_54 : decode cX12_gust 54 = .ok (.getfield 7, 3) := by decide +kernel
theorem dX12_gust_57 : decode cX12_gust 57 = .ok (.bipush 69, 2) := by decide +kernel
theorem dX12_gust_59 : decode cX12_gust 59 = .ok (.dup2, 1) := by decide +kernel
theorem dX12_gust_60 : decode cX12_gust 60 = .ok (.iaload, 1) := by decide +kernel
theorem dX12_gust_61 : decode cX12_gust 61 = .ok (.iconst 1, 1) := by decide +kernel
theorem dX12_gust_62 : decode cX12_gust 62 = .ok (.iadd, 1) := by decide +kernel
theorem dX12_gust_63 : decode cX12_gust 63 = .ok (.iastore, 1) := by decide +kernel
theorem dX12_gust_64 : decode cX12_gust 64 = .ok (.aload_n 0, 1) := by decide +kernel
theorem dX12_gust_65 : decode cX12_gust 65 = .ok (.getfield 7, 3) := by decide +kernel
theorem dX12_gust_68 : decode cX12_gust 68 = .ok (.bipush 69, 2) := by decide +kernel
theorem dX12_gust_70 : decode cX12_gust 70 = .ok (.iaload, 1) := by decide +kernel
theorem dX12_gust_71 : decode cX12_gust 71 = .ok (.ireturn, 1) := by decide +kernel
theorem dX12_waitFor_0 : decode cX12_waitFor 0 = .ok (.iload_n 1, 1) := by decide +kernel
theorem dX12_waitFor_1 : decode cX12_waitFor 1 = .ok (.invokestatic 440, 3) := by decide +kernel
theorem dX12_waitFor_4 : decode cX12_waitFor 4 = .ok (.ifCond .eq 31, 3) := by decide +kernel
theorem dX12_waitFor_7 : decode cX12_waitFor 7 = .ok (.iload_n 2, 1) := by decide +kernel
theorem dX12_waitFor_8 : decode cX12_waitFor 8 = .ok (.iconst 0, 1) := by decide +kernel
theorem dX12_waitFor_9 : decode cX12_waitFor 9 = .ok (.bipush 60, 2) := by decide +kernel
theorem dX12_waitFor_11 : decode cX12_waitFor 11 = .ok (.invokestatic 71, 3) := by decide +kernel
theorem dX12_waitFor_14 : decode cX12_waitFor 14 = .ok (.ifCond .eq 21, 3) := by decide +kernel
theorem dX12_waitFor_17 : decode cX12_waitFor 17 = .ok (.aload_n 0, 1) := by decide +kernel
theorem dX12_waitFor_18 : decode cX12_waitFor 18 = .ok (.iload_n 3, 1) := by decide +kernel
theorem dX12_waitFor_19 : decode cX12_waitFor 19 = .ok (.invokevirtual 401, 3) := by decide +kernel
theorem dX12_waitFor_22 : decode cX12_waitFor 22 = .ok (.ifCond .eq 13, 3) := by decide +kernel
theorem dX12_waitFor_25 : decode cX12_waitFor 25 = .ok (.iload 4, 2) := by decide +kernel
theorem dX12_waitFor_27 : decode cX12_waitFor 27 = .ok (.iconst 0, 1) := by decide +kernel
theorem dX12_waitFor_28 : decode cX12_waitFor 28 = .ok (.iconst 1, 1) := by decide +kernel
theorem dX12_waitFor_29 : decode cX12_waitFor 29 = .ok (.invokestatic 71, 3) := by decide +kernel
theorem dX12_waitFor_32 : decode cX12_waitFor 32 = .ok (.ifCond .ne 5, 3) := by decide +kernel
theorem dX12_waitFor_35 : decode cX12_waitFor 35 = .ok (.iconst (-1), 1) := by decide +kernel
theorem dX12_waitFor_36 : decode cX12_waitFor 36 = .ok (.ireturn, 1) := by decide +kernel
theorem dX12_waitFor_37 : decode cX12_waitFor 37 = .ok (.iconst (-1), 1) := by decide +kernel
theorem dX12_waitFor_38 : decode cX12_waitFor 38 = .ok (.istore 5, 2) := by decide +kernel
theorem dX12_waitFor_40 : decode cX12_waitFor 40 = .ok (.iconst (-1), 1) := by decide +kernel
theorem dX12_waitFor_41 : decode cX12_waitFor 41 = .ok (.istore 6, 2) := by decide +kernel
theorem dX12_waitFor_43 : decode cX12_waitFor 43 = .ok (.iconst 0, 1) := by decide +kernel
theorem dX12_waitFor_44 : decode cX12_waitFor 44 = .ok (.istore 7, 2) := by decide +kernel
theorem dX12_waitFor_46 : decode cX12_waitFor 46 = .ok (.iload 7, 2) := by decide +kernel
theorem dX12_waitFor_48 : decode cX12_waitFor 48 = .ok (.aload_n 0, 1) := by decide +kernel
theorem dX12_waitFor_49 : decode cX12_waitFor 49 = .ok (.getfield 7, 3) := by decide +kernel
theorem dX12_waitFor_52 : decode cX12_waitFor 52 = .ok (.bipush 69, 2) := by decide +kernel
theorem dX12_waitFor_54 : decode cX12_waitFor 54 = .ok (.iaload, 1) := by decide +kernel
theorem dX12_waitFor_55 : decode cX12_waitFor 55 = .ok (.if_icmp .ge 46, 3) := by decide +kernel
theorem dX12_waitFor_58 : decode cX12_waitFor 58 = .ok (.aload_n 0, 1) := by decide +kernel
theorem dX12_waitFor_59 : decode cX12_waitFor 59 = .ok (.iload_n 1, 1) := by decide +kernel
theorem dX12_waitFor_60 : decode cX12_waitFor 60 = .ok (.iload_n 2, 1) := by decide +kernel
theorem dX12_waitFor_61 : decode cX12_waitFor 61 = .ok (.iload_n 3, 1) := by decide +kernel
theorem dX12_waitFor_62 : decode cX12_waitFor 62 = .ok (.aload_n 0, 1) := by decide +kernel
theorem dX12_waitFor_63 : decode cX12_waitFor 63 = .ok (.getfield 7, 3) := by decide +kernel
theorem dX12_waitFor_66 : decode cX12_waitFor 66 = .ok (.bipush 90, 2) := by decide +kernel
theorem dX12_waitFor_68 : decode cX12_waitFor 68 = .ok (.iload 7, 2) := by decide +kernel
theorem dX12_waitFor_70 : decode cX12_waitFor 70 = .ok (.iadd, 1) := by decide +kernel
theorem dX12_waitFor_71 : decode cX12_waitFor 71 = .ok (.iaload, 1) := by decide +kernel
theorem dX12_waitFor_72 : decode cX12_waitFor 72 = .ok (.invokevirtual 434, 3) := by decide +kernel
theorem dX12_waitFor_75 : decode cX12_waitFor 75 = .ok (.istore 8, 2) := by decide +kernel
theorem dX12_waitFor_77 : decode cX12_waitFor 77 = .ok (.iload 8, 2) := by decide +kernel
theorem dX12_waitFor_79 : decode cX12_waitFor 79 = .ok (.iload 6, 2) := by decide +kernel
theorem dX12_waitFor_81 : decode cX12_waitFor 81 = .ok (.if_icmp .gt 6, 3) := by decide +kernel
theorem dX12_waitFor_84 : decode cX12_waitFor 84 = .ok (.goto 11, 3) := by decide +kernel
theorem dX12_waitFor_87 : decode cX12_waitFor 87 = .ok (.iload 8, 2) := by decide +kernel
theorem dX12_waitFor_89 : decode cX12_waitFor 89 = .ok (.istore 6, 2) := by decide +kernel
theorem dX12_waitFor_91 : decode cX12_waitFor 91 = .ok (.iload 7, 2) := by decide +kernel
theorem dX12_waitFor_93 : decode cX12_waitFor 93 = .ok (.istore 5, 2) := by decide +kernel
theorem dX12_waitFor_95 : decode cX12_waitFor 95 = .ok (.iinc 7 1, 3) := by decide +kernel
theorem dX12_waitFor_98 : decode cX12_waitFor 98 = .ok (.goto (-52), 3) := by decide +kernel
theorem dX12_waitFor_101 : decode cX12_waitFor 101 = .ok (.iload 4, 2) := by decide +kernel
theorem dX12_waitFor_103 : decode cX12_waitFor 103 = .ok (.ifCond .ne 8, 3) := by decide +kernel
theorem dX12_waitFor_106 : decode cX12_waitFor 106 = .ok (.iload 5, 2) := by decide +kernel
theorem dX12_waitFor_108 : decode cX12_waitFor 108 = .ok (.goto 5, 3) := by decide +kernel
theorem dX12_waitFor_111 : decode cX12_waitFor 111 = .ok (.iload 6, 2) := by decide +kernel
theorem dX12_waitFor_113 : decode cX12_waitFor 113 = .ok (.ireturn, 1) := by decide +kernel
theorem dX12_image_0 : decode cX12_image 0 = .ok (.iload_n 1, 1) := by decide +kernel
theorem dX12_image_1 : decode cX12_image 1 = .ok (.ifCond .ne 12, 3) := by decide +kernel
theorem dX12_image_4 : decode cX12_image 4 = .ok (.aload_n 0, 1) := by decide +kernel
theorem dX12_image_5 : decode cX12_image 5 = .ok (.getfield 489, 3) := by decide +kernel
theorem dX12_image_8 : decode cX12_image 8 = .ok (.ifCond .ne 5, 3) := by decide +kernel
theorem dX12_image_11 : decode cX12_image 11 = .ok (.iconst 0, 1) := by decide +kernel
theorem dX12_image_12 : decode cX12_image 12 = .ok (.ireturn, 1) := by decide +kernel
theorem dX12_image_13 : decode cX12_image 13 = .ok (.iconst 0, 1) := by decide +kernel
theorem dX12_image_14 : decode cX12_image 14 = .ok (.istore_n 2, 1) := by decide +kernel
theorem dX12_image_15 : decode cX12_image 15 = .ok (.iload_n 2, 1) := by decide +kernel
theorem dX12_image_16 : decode cX12_image 16 = .ok (.sipush 4296, 3) := by decide +kernel
theorem dX12_image_19 : decode cX12_image 19 = .ok (.if_icmp .ge 40, 3) := by decide +kernel
theorem dX12_image_22 : decode cX12_image 22 = .ok (.iload_n 1, 1) := by decide +kernel
theorem dX12_image_23 : decode cX12_image 23 = .ok (.ifCond .eq 18, 3) := by decide +kernel
theorem dX12_image_26 : decode cX12_image 26 = .ok (.aload_n 0, 1) := by decide +kernel
theorem dX12_image_27 : decode cX12_image 27 = .ok (.getfield 13, 3) := by decide +kernel
theorem dX12_image_30 : decode cX12_image 30 = .ok (.iload_n 2, 1) := by decide +kernel
theorem dX12_image_31 : decode cX12_image 31 = .ok (.aload_n 0, 1) := by decide +kernel
theorem dX12_image_32 : decode cX12_image 32 = .ok (.getfield 7, 3) := by decide +kernel
theorem dX12_image_35 : decode cX12_image 35 = .ok (.iload_n 2, 1) := by decide +kernel
theorem dX12_image_36 : decode cX12_image 36 = .ok (.iaload, 1) := by decide +kernel
theorem dX12_image_37 : decode cX12_image 37 = .ok (.iastore, 1) := by decide +kernel
theorem dX12_image_38 : decode cX12_image 38 = .ok (.goto 15, 3) := by decide +kernel
theorem dX12_image_41 : decode cX12_image 41 = .ok (.aload_n 0, 1) := by decide +kernel
theorem dX12_image_42 : decode cX12_image 42 = .ok (.getfield 7, 3) := by decide +kernel
theorem dX12_image_45 : decode cX12_image 45 = .ok (.iload_n 2, 1) := by decide +kernel
theorem dX12_image_46 : decode cX12_image 46 = .ok (.aload_n 0, 1) := by decide +kernel
theorem dX12_image_47 : decode cX12_image 47 = .ok (.getfield 13, 3) := by decide +kernel
theorem dX12_image_50 : decode cX12_image 50 = .ok (.iload_n 2, 1) := by decide +kernel
theorem dX12_image_51 : decode cX12_image 51 = .ok (.iaload, 1) := by decide +kernel
theorem dX12_image_52 : decode cX12_image 52 = .ok (.iastore, 1) := by decide +kernel
theorem dX12_image_53 : decode cX12_image 53 = .ok (.iinc 2 1, 3) := by decide +kernel
theorem dX12_image_56 : decode cX12_image 56 = .ok (.goto (-41), 3) := by decide +kernel
theorem dX12_image_59 : decode cX12_image 59 = .ok (.iload_n 1, 1) := by decide +kernel
theorem dX12_image_60 : decode cX12_image 60 = .ok (.ifCond .ne 7, 3) := by decide +kernel
theorem dX12_image_63 : decode cX12_image 63 = .ok (.aload_n 0, 1) := by decide +kernel
theorem dX12_image_64 : decode cX12_image 64 = .ok (.invokevirtual 78, 3) := by decide +kernel
theorem dX12_image_67 : decode cX12_image 67 = .ok (.aload_n 0, 1) := by decide +kernel
theorem dX12_image_68 : decode cX12_image 68 = .ok (.iconst 1, 1) := by decide +kernel
theorem dX12_image_69 : decode cX12_image 69 = .ok (.putfield 489, 3) := by decide +kernel
theorem dX12_image_72 : decode cX12_image 72 = .ok (.iconst 1, 1) := by decide +kernel
theorem dX12_image_73 : decode cX12_image 73 = .ok (.ireturn, 1) := by decide +kernel
theorem dX12_look_0 : decode cX12_look 0 = .ok (.iload_n 1, 1) := by decide +kernel
theorem dX12_look_1 : decode cX12_look 1 = .ok (.tableswitch 155 0 11 #[63, 71, 79, 86, 93, 101, 108, 115, 124, 133, 138, 146], 63) := by decide +kernel
theorem dX12_look_64 : decode cX12_look 64 = .ok (.aload_n 0, 1) := by decide +kernel
theorem dX12_look_65 : decode cX12_look 65 = .ok (.getfield 7, 3) := by decide +kernel
theorem dX12_look_68 : decode cX12_look 68 = .ok (.bipush 67, 2) := by decide +kernel
theorem dX12_look_70 : decode cX12_look 70 = .ok (.iaload, 1) := by decide +kernel
theorem dX12_look_71 : decode cX12_look 71 = .ok (.ireturn, 1) := by decide +kernel
theorem dX12_look_72 : decode cX12_look 72 = .ok (.aload_n 0, 1) := by decide +kernel
theorem dX12_look_73 : decode cX12_look 73 = .ok (.getfield 7, 3) := by decide +kernel
theorem dX12_look_76 : decode cX12_look 76 = .ok (.bipush 68, 2) := by decide +kernel
theorem dX12_look_78 : decode cX12_look 78 = .ok (.iaload, 1) := by decide +kernel
theorem dX12_look_79 : decode cX12_look 79 = .ok (.ireturn, 1) := by decide +kernel
theorem dX12_look_80 : decode cX12_look 80 = .ok (.aload_n 0, 1) := by decide +kernel
theorem dX12_look_81 : decode cX12_look 81 = .ok (.getfield 7, 3) := by decide +kernel
theorem dX12_look_84 : decode cX12_look 84 = .ok (.iconst 0, 1) := by decide +kernel
theorem dX12_look_85 : decode cX12_look 85 = .ok (.iaload, 1) := by decide +kernel
theorem dX12_look_86 : decode cX12_look 86 = .ok (.ireturn, 1) := by decide +kernel
theorem dX12_look_87 : decode cX12_look 87 = .ok (.aload_n 0, 1) := by decide +kernel
theorem dX12_look_88 : decode cX12_look 88 = .ok (.getfield 7, 3) := by decide +kernel
theorem dX12_look_91 : decode cX12_look 91 = .ok (.iconst 1, 1) := by decide +kernel
theorem dX12_look_92 : decode cX12_look 92 = .ok (.iaload, 1) := by decide +kernel
theorem dX12_look_93 : decode cX12_look 93 = .ok (.ireturn, 1) := by decide +kernel
theorem dX12_look_94 : decode cX12_look 94 = .ok (.aload_n 0, 1) := by decide +kernel
theorem dX12_look_95 : decode cX12_look 95 = .ok (.getfield 7, 3) := by decide +kernel
theorem dX12_look_98 : decode cX12_look 98 = .ok (.bipush 66, 2) := by decide +kernel
theorem dX12_look_100 : decode cX12_look 100 = .ok (.iaload, 1) := by decide +kernel
theorem dX12_look_101 : decode cX12_look 101 = .ok (.ireturn, 1) := by decide +kernel
theorem dX12_look_102 : decode cX12_look 102 = .ok (.aload_n 0, 1) := by decide +kernel
theorem dX12_look_103 : decode cX12_look 103 = .ok (.getfield 7, 3) := by decide +kernel
theorem dX12_look_106 : decode cX12_look 106 = .ok (.iconst 2, 1) := by decide +kernel
theorem dX12_look_107 : decode cX12_look 107 = .ok (.iaload, 1) := by decide +kernel
theorem dX12_look_108 : decode cX12_look 108 = .ok (.ireturn, 1) := by decide +kernel
theorem dX12_look_109 : decode cX12_look 109 = .ok (.aload_n 0, 1) := by decide +kernel
theorem dX12_look_110 : decode cX12_look 110 = .ok (.getfield 7, 3) := by decide +kernel
theorem dX12_look_113 : decode cX12_look 113 = .ok (.iconst 3, 1) := by decide +kernel
theorem dX12_look_114 : decode cX12_look 114 = .ok (.iaload, 1) := by decide +kernel
theorem dX12_look_115 : decode cX12_look 115 = .ok (.ireturn, 1) := by decide +kernel
theorem dX12_look_116 : decode cX12_look 116 = .ok (.aload_n 0, 1) := by decide +kernel
theorem dX12_look_117 : decode cX12_look 117 = .ok (.getfield 7, 3) := by decide +kernel
theorem dX12_look_120 : decode cX12_look 120 = .ok (.sipush 640, 3) := by decide +kernel
theorem dX12_look_123 : decode cX12_look 123 = .ok (.iaload, 1) := by decide +kernel
theorem dX12_look_124 : decode cX12_look 124 = .ok (.ireturn, 1) := by decide +kernel
theorem dX12_look_125 : decode cX12_look 125 = .ok (.aload_n 0, 1) := by decide +kernel
theorem dX12_look_126 : decode cX12_look 126 = .ok (.getfield 7, 3) := by decide +kernel
theorem dX12_look_129 : decode cX12_look 129 = .ok (.sipush 641, 3) := by decide +kernel
theorem dX12_look_132 : decode cX12_look 132 = .ok (.iaload, 1) := by decide +kernel
theorem dX12_look_133 : decode cX12_look 133 = .ok (.ireturn, 1) := by decide +kernel
theorem dX12_look_134 : decode cX12_look 134 = .ok (.aload_n 0, 1) := by decide +kernel
theorem dX12_look_135 : decode cX12_look 135 = .ok (.getfield 75, 3) := by decide +kernel
theorem dX12_look_138 : decode cX12_look 138 = .ok (.ireturn, 1) := by decide +kernel
theorem dX12_look_139 : decode cX12_look 139 = .ok (.aload_n 0, 1) := by decide +kernel
theorem dX12_look_140 : decode cX12_look 140 = .ok (.getfield 7, 3) := by decide +kernel
theorem dX12_look_143 : decode cX12_look 143 = .ok (.bipush 69, 2) := by decide +kernel
theorem dX12_look_145 : decode cX12_look 145 = .ok (.iaload, 1) := by decide +kernel
theorem dX12_look_146 : decode cX12_look 146 = .ok (.ireturn, 1) := by decide +kernel
theorem dX12_look_147 : decode cX12_look 147 = .ok (.aload_n 0, 1) := by decide +kernel
theorem dX12_look_148 : decode cX12_look 148 = .ok (.getfield 7, 3) := by decide +kernel
theorem dX12_look_151 : decode cX12_look 151 = .ok (.sipush 642, 3) := by decide +kernel
theorem dX12_look_154 : decode cX12_look 154 = .ok (.iaload, 1) := by decide +kernel
theorem dX12_look_155 : decode cX12_look 155 = .ok (.ireturn, 1) := by decide +kernel
theorem dX12_look_156 : decode cX12_look 156 = .ok (.iload_n 1, 1) := by decide +kernel
theorem dX12_look_157 : decode cX12_look 157 = .ok (.bipush 20, 2) := by decide +kernel
theorem dX12_look_159 : decode cX12_look 159 = .ok (.bipush 24, 2) := by decide +kernel
theorem dX12_look_161 : decode cX12_look 161 = .ok (.invokestatic 71, 3) := by decide +kernel
theorem dX12_look_164 : decode cX12_look 164 = .ok (.ifCond .eq 18, 3) := by decide +kernel
theorem dX12_look_167 : decode cX12_look 167 = .ok (.aload_n 0, 1) := by decide +kernel
theorem dX12_look_168 : decode cX12_look 168 = .ok (.getfield 7, 3) := by decide +kernel
theorem dX12_look_171 : decode cX12_look 171 = .ok (.bipush 60, 2) := by decide +kernel
theorem dX12_look_173 : decode cX12_look 173 = .ok (.iload_n 1, 1) := by decide +kernel
theorem dX12_look_174 : decode cX12_look 174 = .ok (.iadd, 1) := by decide +kernel
theorem dX12_look_175 : decode cX12_look 175 = .ok (.bipush 20, 2) := by decide +kernel
theorem dX12_look_177 : decode cX12_look 177 = .ok (.isub, 1) := by decide +kernel
theorem dX12_look_178 : decode cX12_look 178 = .ok (.iaload, 1) := by decide +kernel
theorem dX12_look_179 : decode cX12_look 179 = .ok (.goto 6, 3) := by decide +kernel
theorem dX12_look_182 : decode cX12_look 182 = .ok (.sipush (-1000), 3) := by decide +kernel
theorem dX12_look_185 : decode cX12_look 185 = .ok (.ireturn, 1) := by decide +kernel
theorem dJ9_abs_0f7a4_0 : decode cJ9_abs_0f7a4 0 = .ok (.iload_n 0, 1) := by decide +kernel
theorem dJ9_abs_0f7a4_1 : decode cJ9_abs_0f7a4 1 = .ok (.ifCond .ge 8, 3) := by decide +kernel
theorem dJ9_abs_0f7a4_4 : decode cJ9_abs_0f7a4 4 = .ok (.iload_n 0, 1) := by decide +kernel
theorem dJ9_abs_0f7a4_5 : decode cJ9_abs_0f7a4 5 = .ok (.ineg, 1) := by decide +kernel
theorem dJ9_abs_0f7a4_6 : decode cJ9_abs_0f7a4 6 = .ok (.goto 4, 3) := by decide +kernel
theorem dJ9_abs_0f7a4_9 : decode cJ9_abs_0f7a4 9 = .ok (.iload_n 0, 1) := by decide +kernel
theorem dJ9_abs_0f7a4_10 : decode cJ9_abs_0f7a4 10 = .ok (.ireturn, 1) := by decide +kernel
theorem dJ9_abs_067f4_0 : decode cJ9_abs_067f4 0 = .ok (.lload_n 0, 1) := by decide +kernel
theorem dJ9_abs_067f4_1 : decode cJ9_abs_067f4 1 = .ok (.lconst 0, 1) := by decide +kernel
theorem dJ9_abs_067f4_2 : decode cJ9_abs_067f4 2 = .ok (.lcmp, 1) := by decide +kernel
theorem dJ9_abs_067f4_3 : decode cJ9_abs_067f4 3 = .ok (.ifCond .ge 8, 3) := by decide +kernel
theorem dJ9_abs_067f4_6 : decode cJ9_abs_067f4 6 = .ok (.lload_n 0, 1) := by decide +kernel
theorem dJ9_abs_067f4_7 : decode cJ9_abs_067f4 7 = .ok (.lneg, 1) := by decide +kernel
theorem dJ9_abs_067f4_8 : decode cJ9_abs_067f4 8 = .ok (.goto 4, 3) := by decide +kernel
theorem dJ9_abs_067f4_11 : decode cJ9_abs_067f4 11 = .ok (.lload_n 0, 1) := by decide +kernel
theorem dJ9_abs_067f4_12 : decode cJ9_abs_067f4 12 = .ok (.lreturn, 1) := by decide +kernel
theorem dJ9_max_7cf53_0 : decode cJ9_max_7cf53 0 = .ok (.iload_n 0, 1) := by decide +kernel
theorem dJ9_max_7cf53_1 : decode cJ9_max_7cf53 1 = .ok (.iload_n 1, 1) := by decide +kernel
theorem dJ9_max_7cf53_2 : decode cJ9_max_7cf53 2 = .ok (.if_icmp .lt 7, 3) := by decide +kernel
theorem dJ9_max_7cf53_5 : decode cJ9_max_7cf53 5 = .ok (.iload_n 0, 1) := by decide +kernel
theorem dJ9_max_7cf53_6 : decode cJ9_max_7cf53 6 = .ok (.goto 4, 3) := by decide +kernel
theorem dJ9_max_7cf53_9 : decode cJ9_max_7cf53 9 = .ok (.iload_n 1, 1) := by decide +kernel
theorem dJ9_max_7cf53_10 : decode cJ9_max_7cf53 10 = .ok (.ireturn, 1) := by decide +kernel
theorem dJ9_min_7cf53_0 : decode cJ9_min_7cf53 0 = .ok (.iload_n 0, 1) := by decide +kernel
theorem dJ9_min_7cf53_1 : decode cJ9_min_7cf53 1 = .ok (.iload_n 1, 1) := by decide +kernel
theorem dJ9_min_7cf53_2 : decode cJ9_min_7cf53 2 = .ok (.if_icmp .gt 7, 3) := by decide +kernel
theorem dJ9_min_7cf53_5 : decode cJ9_min_7cf53 5 = .ok (.iload_n 0, 1) := by decide +kernel
theorem dJ9_min_7cf53_6 : decode cJ9_min_7cf53 6 = .ok (.goto 4, 3) := by decide +kernel
theorem dJ9_min_7cf53_9 : decode cJ9_min_7cf53 9 = .ok (.iload_n 1, 1) := by decide +kernel
theorem dJ9_min_7cf53_10 : decode cJ9_min_7cf53 10 = .ok (.ireturn, 1) := by decide +kernel
theorem dJ0_length_8abf5_0 : decode cJ0_length_8abf5 0 = .ok (.aload_n 0, 1) := by decide +kernel
theorem dJ0_length_8abf5_1 : decode cJ0_length_8abf5 1 = .ok (.getfield 9, 3) := by decide +kernel
theorem dJ0_length_8abf5_4 : decode cJ0_length_8abf5 4 = .ok (.arraylength, 1) := by decide +kernel
theorem dJ0_length_8abf5_5 : decode cJ0_length_8abf5 5 = .ok (.aload_n 0, 1) := by decide +kernel
theorem dJ0_length_8abf5_6 : decode cJ0_length_8abf5 6 = .ok (.invokevirtual 335, 3) := by decide +kernel
theorem dJ0_length_8abf5_9 : decode cJ0_length_8abf5 9 = .ok (.ishr, 1) := by decide +kernel
theorem dJ0_length_8abf5_10 : decode cJ0_length_8abf5 10 = .ok (.ireturn, 1) := by decide +kernel
theorem dJ0_charAt_5068e_0 : decode cJ0_charAt_5068e 0 = .ok (.aload_n 0, 1) := by decide +kernel
theorem dJ0_charAt_5068e_1 : decode cJ0_charAt_5068e 1 = .ok (.invokevirtual 492, 3) := by decide +kernel
theorem dJ0_charAt_5068e_4 : decode cJ0_charAt_5068e 4 = .ok (.ifCond .eq 12, 3) := by decide +kernel
theorem dJ0_charAt_5068e_7 : decode cJ0_charAt_5068e 7 = .ok (.aload_n 0, 1) := by decide +kernel
theorem dJ0_charAt_5068e_8 : decode cJ0_charAt_5068e 8 = .ok (.getfield 9, 3) := by decide +kernel
theorem dJ0_charAt_5068e_11 : decode cJ0_charAt_5068e 11 = .ok (.iload_n 1, 1) := by decide +kernel
theorem dJ0_charAt_5068e_12 : decode cJ0_charAt_5068e 12 = .ok (.invokestatic 495, 3) := by decide +kernel
theorem dJ0_charAt_5068e_15 : decode cJ0_charAt_5068e 15 = .ok (.ireturn, 1) := by decide +kernel
theorem dJ0_charAt_5068e_16 : decode cJ0_charAt_5068e 16 = .ok (.aload_n 0, 1) := by decide +kernel
theorem dJ0_charAt_5068e_17 : decode cJ0_charAt_5068e 17 = .ok (.getfield 9, 3) := by decide +kernel
theorem dJ0_charAt_5068e_20 : decode cJ0_charAt_5068e 20 = .ok (.iload_n 1, 1) := by decide +kernel
theorem dJ0_charAt_5068e_21 : decode cJ0_charAt_5068e 21 = .ok (.invokestatic 498, 3) := by decide +kernel
theorem dJ0_charAt_5068e_24 : decode cJ0_charAt_5068e 24 = .ok (.ireturn, 1) := by decide +kernel
theorem dJ0_coder_7d493_0 : decode cJ0_coder_7d493 0 = .ok (.getstatic 38, 3) := by decide +kernel
theorem dJ0_coder_7d493_3 : decode cJ0_coder_7d493 3 = .ok (.ifCond .eq 10, 3) := by decide +kernel
theorem dJ0_coder_7d493_6 : decode cJ0_coder_7d493 6 = .ok (.aload_n 0, 1) := by decide +kernel
theorem dJ0_coder_7d493_7 : decode cJ0_coder_7d493 7 = .ok (.getfield 15, 3) := by decide +kernel
theorem dJ0_coder_7d493_10 : decode cJ0_coder_7d493 10 = .ok (.goto 4, 3) := by decide +kernel
theorem dJ0_coder_7d493_13 : decode cJ0_coder_7d493 13 = .ok (.iconst 1, 1) := by decide +kernel
theorem dJ0_coder_7d493_14 : decode cJ0_coder_7d493 14 = .ok (.ireturn, 1) := by decide +kernel
theorem dJ0_isLatin1_aae02_0 : decode cJ0_isLatin1_aae02 0 = .ok (.getstatic 38, 3) := by decide +kernel
theorem dJ0_isLatin1_aae02_3 : decode cJ0_isLatin1_aae02 3 = .ok (.ifCond .eq 14, 3) := by decide +kernel
theorem dJ0_isLatin1_aae02_6 : decode cJ0_isLatin1_aae02 6 = .ok (.aload_n 0, 1) := by decide +kernel
theorem dJ0_isLatin1_aae02_7 : decode cJ0_isLatin1_aae02 7 = .ok (.getfield 15, 3) := by decide +kernel
theorem dJ0_isLatin1_aae02_10 : decode cJ0_isLatin1_aae02 10 = .ok (.ifCond .ne 7, 3) := by decide +kernel
theorem dJ0_isLatin1_aae02_13 : decode cJ0_isLatin1_aae02 13 = .ok (.iconst 1, 1) := by decide +kernel
theorem dJ0_isLatin1_aae02_14 : decode cJ0_isLatin1_aae02 14 = .ok (.goto 4, 3) := by decide +kernel
theorem dJ0_isLatin1_aae02_17 : decode cJ0_isLatin1_aae02 17 = .ok (.iconst 0, 1) := by decide +kernel
theorem dJ0_isLatin1_aae02_18 : decode cJ0_isLatin1_aae02 18 = .ok (.ireturn, 1) := by decide +kernel
theorem dJ0_checkIndex_df160_0 : decode cJ0_checkIndex_df160 0 = .ok (.iload_n 0, 1) := by decide +kernel
theorem dJ0_checkIndex_df160_1 : decode cJ0_checkIndex_df160 1 = .ok (.iload_n 1, 1) := by decide +kernel
theorem dJ0_checkIndex_df160_2 : decode cJ0_checkIndex_df160 2 = .ok (.getstatic 1053, 3) := by decide +kernel
theorem dJ0_checkIndex_df160_5 : decode cJ0_checkIndex_df160 5 = .ok (.invokestatic 1059, 3) := by decide +kernel
theorem dJ0_checkIndex_df160_8 : decode cJ0_checkIndex_df160 8 = .ok (.pop, 1) := by decide +kernel
theorem dJ0_checkIndex_df160_9 : decode cJ0_checkIndex_df160 9 = .ok (.return_, 1) := by decide +kernel
theorem dJ1_charAt_3b067_0 : decode cJ1_charAt_3b067 0 = .ok (.iload_n 1, 1) := by decide +kernel
theorem dJ1_charAt_3b067_1 : decode cJ1_charAt_3b067 1 = .ok (.aload_n 0, 1) := by decide +kernel
theorem dJ1_charAt_3b067_2 : decode cJ1_charAt_3b067 2 = .ok (.arraylength, 1) := by decide +kernel
theorem dJ1_charAt_3b067_3 : decode cJ1_charAt_3b067 3 = .ok (.invokestatic 9, 3) := by decide +kernel
theorem dJ1_charAt_3b067_6 : decode cJ1_charAt_3b067 6 = .ok (.aload_n 0, 1) := by decide +kernel
theorem dJ1_charAt_3b067_7 : decode cJ1_charAt_3b067 7 = .ok (.iload_n 1, 1) := by decide +kernel
theorem dJ1_charAt_3b067_8 : decode cJ1_charAt_3b067 8 = .ok (.baload, 1) := by decide +kernel
theorem dJ1_charAt_3b067_9 : decode cJ1_charAt_3b067 9 = .ok (.sipush 255, 3) := by decide +kernel
theorem dJ1_charAt_3b067_12 : decode cJ1_charAt_3b067 12 = .ok (.iand, 1) := by decide +kernel
theorem dJ1_charAt_3b067_13 : decode cJ1_charAt_3b067 13 = .ok (.i2c, 1) := by decide +kernel
theorem dJ1_charAt_3b067_14 : decode cJ1_charAt_3b067 14 = .ok (.ireturn, 1) := by decide +kernel
theorem dJ2_getChar_3b067_0 : decode cJ2_getChar_3b067 0 = .ok (.getstatic 44, 3) := by decide +kernel
theorem dJ2_getChar_3b067_3 : decode cJ2_getChar_3b067 3 = .ok (.ifCond .ne 25, 3) := by decide +kernel
theorem dJ2_getChar_3b067_6 : decode cJ2_getChar_3b067 6 = .ok (.iload_n 1, 1) := by decide +kernel
theorem dJ2_getChar_3b067_7 : decode cJ2_getChar_3b067 7 = .ok (.ifCond .lt 11, 3) := by decide +kernel
theorem dJ2_getChar_3b067_10 : decode cJ2_getChar_3b067 10 = .ok (.iload_n 1, 1) := by decide +kernel
theorem dJ2_getChar_3b067_11 : decode cJ2_getChar_3b067 11 = .ok (.aload_n 0, 1) := by decide +kernel
theorem dJ2_getChar_3b067_12 : decode cJ2_getChar_3b067 12 = .ok (.invokestatic 48, 3) := by decide +kernel
theorem dJ2_getChar_3b067_15 : decode cJ2_getChar_3b067 15 = .ok (.if_icmp .lt 13, 3) := by decide +kernel
theorem dJ2_getChar_3b067_18 : decode cJ2_getChar_3b067 18 = .ok (.new 52, 3) := by decide +kernel
theorem dJ2_getChar_3b067_21 : decode cJ2_getChar_3b067 21 = .ok (.dup, 1) := by decide +kernel
theorem dJ2_getChar_3b067_22 : decode cJ2_getChar_3b067 22 = .ok (.ldc 54, 2) := by decide +kernel
theorem dJ2_getChar_3b067_24 : decode cJ2_getChar_3b067 24 = .ok (.invokespecial 56, 3) := by decide +kernel
theorem dJ2_getChar_3b067_27 : decode cJ2_getChar_3b067 27 = .ok (.athrow, 1) := by decide +kernel
theorem dJ2_getChar_3b067_28 : decode cJ2_getChar_3b067 28 = .ok (.iload_n 1, 1) := by decide +kernel
theorem dJ2_getChar_3b067_29 : decode cJ2_getChar_3b067 29 = .ok (.iconst 1, 1) := by decide +kernel
theorem dJ2_getChar_3b067_30 : decode cJ2_getChar_3b067 30 = .ok (.ishl, 1) := by decide +kernel
theorem dJ2_getChar_3b067_31 : decode cJ2_getChar_3b067 31 = .ok (.istore_n 1, 1) := by decide +kernel
theorem dJ2_getChar_3b067_32 : decode cJ2_getChar_3b067 32 = .ok (.aload_n 0, 1) := by decide +kernel
theorem dJ2_getChar_3b067_33 : decode cJ2_getChar_3b067 33 = .ok (.iload_n 1, 1) := by decide +kernel
theorem dJ2_getChar_3b067_34 : decode cJ2_getChar_3b067 34 = .ok (.iinc 1 1, 3) := by decide +kernel
theorem dJ2_getChar_3b067_37 : decode cJ2_getChar_3b067 37 = .ok (.baload, 1) := by decide +kernel
theorem dJ2_getChar_3b067_38 : decode cJ2_getChar_3b067 38 = .ok (.sipush 255, 3) := by decide +kernel
theorem dJ2_getChar_3b067_41 : decode cJ2_getChar_3b067 41 = .ok (.iand, 1) := by decide +kernel
theorem dJ2_getChar_3b067_42 : decode cJ2_getChar_3b067 42 = .ok (.getstatic 59, 3) := by decide +kernel
theorem dJ2_getChar_3b067_45 : decode cJ2_getChar_3b067 45 = .ok (.ishl, 1) := by decide +kernel
theorem dJ2_getChar_3b067_46 : decode cJ2_getChar_3b067 46 = .ok (.aload_n 0, 1) := by decide +kernel
theorem dJ2_getChar_3b067_47 : decode cJ2_getChar_3b067 47 = .ok (.iload_n 1, 1) := by decide +kernel
theorem dJ2_getChar_3b067_48 : decode cJ2_getChar_3b067 48 = .ok (.baload, 1) := by decide +kernel
theorem dJ2_getChar_3b067_49 : decode cJ2_getChar_3b067 49 = .ok (.sipush 255, 3) := by decide +kernel
theorem dJ2_getChar_3b067_52 : decode cJ2_getChar_3b067 52 = .ok (.iand, 1) := by decide +kernel
theorem dJ2_getChar_3b067_53 : decode cJ2_getChar_3b067 53 = .ok (.getstatic 63, 3) := by decide +kernel
theorem dJ2_getChar_3b067_56 : decode cJ2_getChar_3b067 56 = .ok (.ishl, 1) := by decide +kernel
theorem dJ2_getChar_3b067_57 : decode cJ2_getChar_3b067 57 = .ok (.ior, 1) := by decide +kernel
theorem dJ2_getChar_3b067_58 : decode cJ2_getChar_3b067 58 = .ok (.i2c, 1) := by decide +kernel
theorem dJ2_getChar_3b067_59 : decode cJ2_getChar_3b067 59 = .ok (.ireturn, 1) := by decide +kernel
theorem dJ2_length_9d52b_0 : decode cJ2_length_9d52b 0 = .ok (.aload_n 0, 1) := by decide +kernel
theorem dJ2_length_9d52b_1 : decode cJ2_length_9d52b 1 = .ok (.arraylength, 1) := by decide +kernel
theorem dJ2_length_9d52b_2 : decode cJ2_length_9d52b 2 = .ok (.iconst 1, 1) := by decide +kernel
theorem dJ2_length_9d52b_3 : decode cJ2_length_9d52b 3 = .ok (.ishr, 1) := by decide +kernel
theorem dJ2_length_9d52b_4 : decode cJ2_length_9d52b 4 = .ok (.ireturn, 1) := by decide +kernel
theorem dJ2_charAt_3b067_0 : decode cJ2_charAt_3b067 0 = .ok (.iload_n 1, 1) := by decide +kernel
theorem dJ2_charAt_3b067_1 : decode cJ2_charAt_3b067 1 = .ok (.aload_n 0, 1) := by decide +kernel
theorem dJ2_charAt_3b067_2 : decode cJ2_charAt_3b067 2 = .ok (.invokestatic 67, 3) := by decide +kernel
theorem dJ2_charAt_3b067_5 : decode cJ2_charAt_3b067 5 = .ok (.aload_n 0, 1) := by decide +kernel
theorem dJ2_charAt_3b067_6 : decode cJ2_charAt_3b067 6 = .ok (.iload_n 1, 1) := by decide +kernel
theorem dJ2_charAt_3b067_7 : decode cJ2_charAt_3b067 7 = .ok (.invokestatic 71, 3) := by decide +kernel
theorem dJ2_charAt_3b067_10 : decode cJ2_charAt_3b067 10 = .ok (.ireturn, 1) := by decide +kernel
theorem dJ2_checkIndex_2214a_0 : decode cJ2_checkIndex_2214a 0 = .ok (.iload_n 0, 1) := by decide +kernel
theorem dJ2_checkIndex_2214a_1 : decode cJ2_checkIndex_2214a 1 = .ok (.aload_n 1, 1) := by decide +kernel
theorem dJ2_checkIndex_2214a_2 : decode cJ2_checkIndex_2214a 2 = .ok (.invokestatic 48, 3) := by decide +kernel
theorem dJ2_checkIndex_2214a_5 : decode cJ2_checkIndex_2214a 5 = .ok (.invokestatic 414, 3) := by decide +kernel
theorem dJ2_checkIndex_2214a_8 : decode cJ2_checkIndex_2214a 8 = .ok (.return_, 1) := by decide +kernel
theorem dJ7_fill_d0a16_0 : decode cJ7_fill_d0a16 0 = .ok (.iconst 0, 1) := by decide +kernel
theorem dJ7_fill_d0a16_1 : decode cJ7_fill_d0a16 1 = .ok (.istore_n 3, 1) := by decide +kernel
theorem dJ7_fill_d0a16_2 : decode cJ7_fill_d0a16 2 = .ok (.aload_n 0, 1) := by decide +kernel
theorem dJ7_fill_d0a16_3 : decode cJ7_fill_d0a16 3 = .ok (.arraylength, 1) := by decide +kernel
theorem dJ7_fill_d0a16_4 : decode cJ7_fill_d0a16 4 = .ok (.istore 4, 2) := by decide +kernel
theorem dJ7_fill_d0a16_6 : decode cJ7_fill_d0a16 6 = .ok (.iload_n 3, 1) := by decide +kernel
theorem dJ7_fill_d0a16_7 : decode cJ7_fill_d0a16 7 = .ok (.iload 4, 2) := by decide +kernel
theorem dJ7_fill_d0a16_9 : decode cJ7_fill_d0a16 9 = .ok (.if_icmp .ge 13, 3) := by decide +kernel
theorem dJ7_fill_d0a16_12 : decode cJ7_fill_d0a16 12 = .ok (.aload_n 0, 1) := by decide +kernel
theorem dJ7_fill_d0a16_13 : decode cJ7_fill_d0a16 13 = .ok (.iload_n 3, 1) := by decide +kernel
theorem dJ7_fill_d0a16_14 : decode cJ7_fill_d0a16 14 = .ok (.lload_n 1, 1) := by decide +kernel
theorem dJ7_fill_d0a16_15 : decode cJ7_fill_d0a16 15 = .ok (.lastore, 1) := by decide +kernel
theorem dJ7_fill_d0a16_16 : decode cJ7_fill_d0a16 16 = .ok (.iinc 3 1, 3) := by decide +kernel
theorem dJ7_fill_d0a16_19 : decode cJ7_fill_d0a16 19 = .ok (.goto (-13), 3) := by decide +kernel
theorem dJ7_fill_d0a16_22 : decode cJ7_fill_d0a16 22 = .ok (.return_, 1) := by decide +kernel
theorem dJ7_fill_53178_0 : decode cJ7_fill_53178 0 = .ok (.iconst 0, 1) := by decide +kernel
theorem dJ7_fill_53178_1 : decode cJ7_fill_53178 1 = .ok (.istore_n 2, 1) := by decide +kernel
theorem dJ7_fill_53178_2 : decode cJ7_fill_53178 2 = .ok (.aload_n 0, 1) := by decide +kernel
theorem dJ7_fill_53178_3 : decode cJ7_fill_53178 3 = .ok (.arraylength, 1) := by decide +kernel
theorem dJ7_fill_53178_4 : decode cJ7_fill_53178 4 = .ok (.istore_n 3, 1) := by decide +kernel
theorem dJ7_fill_53178_5 : decode cJ7_fill_53178 5 = .ok (.iload_n 2, 1) := by decide +kernel
theorem dJ7_fill_53178_6 : decode cJ7_fill_53178 6 = .ok (.iload_n 3, 1) := by decide +kernel
theorem dJ7_fill_53178_7 : decode cJ7_fill_53178 7 = .ok (.if_icmp .ge 13, 3) := by decide +kernel
theorem dJ7_fill_53178_10 : decode cJ7_fill_53178 10 = .ok (.aload_n 0, 1) := by decide +kernel
theorem dJ7_fill_53178_11 : decode cJ7_fill_53178 11 = .ok (.iload_n 2, 1) := by decide +kernel
theorem dJ7_fill_53178_12 : decode cJ7_fill_53178 12 = .ok (.iload_n 1, 1) := by decide +kernel
theorem dJ7_fill_53178_13 : decode cJ7_fill_53178 13 = .ok (.iastore, 1) := by decide +kernel
theorem dJ7_fill_53178_14 : decode cJ7_fill_53178 14 = .ok (.iinc 2 1, 3) := by decide +kernel
theorem dJ7_fill_53178_17 : decode cJ7_fill_53178 17 = .ok (.goto (-12), 3) := by decide +kernel
theorem dJ7_fill_53178_20 : decode cJ7_fill_53178 20 = .ok (.return_, 1) := by decide +kernel
theorem dJ3_checkIndex_8e157_0 : decode cJ3_checkIndex_8e157 0 = .ok (.iload_n 0, 1) := by decide +kernel
theorem dJ3_checkIndex_8e157_1 : decode cJ3_checkIndex_8e157 1 = .ok (.ifCond .lt 8, 3) := by decide +kernel
theorem dJ3_checkIndex_8e157_4 : decode cJ3_checkIndex_8e157 4 = .ok (.iload_n 0, 1) := by decide +kernel
theorem dJ3_checkIndex_8e157_5 : decode cJ3_checkIndex_8e157 5 = .ok (.iload_n 1, 1) := by decide +kernel
theorem dJ3_checkIndex_8e157_6 : decode cJ3_checkIndex_8e157 6 = .ok (.if_icmp .lt 10, 3) := by decide +kernel
theorem dJ3_checkIndex_8e157_9 : decode cJ3_checkIndex_8e157 9 = .ok (.aload_n 2, 1) := by decide +kernel
theorem dJ3_checkIndex_8e157_10 : decode cJ3_checkIndex_8e157 10 = .ok (.iload_n 0, 1) := by decide +kernel
theorem dJ3_checkIndex_8e157_11 : decode cJ3_checkIndex_8e157 11 = .ok (.iload_n 1, 1) := by decide +kernel
theorem dJ3_checkIndex_8e157_12 : decode cJ3_checkIndex_8e157 12 = .ok (.invokestatic 95, 3) := by decide +kernel
theorem dJ3_checkIndex_8e157_15 : decode cJ3_checkIndex_8e157 15 = .ok (.athrow, 1) := by decide +kernel
theorem dJ3_checkIndex_8e157_16 : decode cJ3_checkIndex_8e157 16 = .ok (.iload_n 0, 1) := by decide +kernel
theorem dJ3_checkIndex_8e157_17 : decode cJ3_checkIndex_8e157 17 = .ok (.ireturn, 1) := by decide +kernel
theorem dL_law_0 : decode cL_law 0 = .ok (.new 7, 3) := by decide +kernel
theorem dL_law_3 : decode cL_law 3 = .ok (.dup, 1) := by decide +kernel
theorem dL_law_4 : decode cL_law 4 = .ok (.invokespecial 9, 3) := by decide +kernel
theorem dL_law_7 : decode cL_law 7 = .ok (.astore_n 1, 1) := by decide +kernel
theorem dL_law_8 : decode cL_law 8 = .ok (.new 10, 3) := by decide +kernel
theorem dL_law_11 : decode cL_law 11 = .ok (.dup, 1) := by decide +kernel
theorem dL_law_12 : decode cL_law 12 = .ok (.invokespecial 12, 3) := by decide +kernel
theorem dL_law_15 : decode cL_law 15 = .ok (.astore_n 2, 1) := by decide +kernel
theorem dL_law_16 : decode cL_law 16 = .ok (.iconst 0, 1) := by decide +kernel
theorem dL_law_17 : decode cL_law 17 = .ok (.istore_n 3, 1) := by decide +kernel
theorem dL_law_18 : decode cL_law 18 = .ok (.iload_n 3, 1) := by decide +kernel
theorem dL_law_19 : decode cL_law 19 = .ok (.aload_n 0, 1) := by decide +kernel
theorem dL_law_20 : decode cL_law 20 = .ok (.arraylength, 1) := by decide +kernel
theorem dL_law_21 : decode cL_law 21 = .ok (.bipush 8, 2) := by decide +kernel
theorem dL_law_23 : decode cL_law 23 = .ok (.isub, 1) := by decide +kernel
theorem dL_law_24 : decode cL_law 24 = .ok (.if_icmp .gt 1653, 3) := by decide +kernel
theorem dL_law_27 : decode cL_law 27 = .ok (.aload_n 0, 1) := by decide +kernel
theorem dL_law_28 : decode cL_law 28 = .ok (.iload_n 3, 1) := by decide +kernel
theorem dL_law_29 : decode cL_law 29 = .ok (.iaload, 1) := by decide +kernel
theorem dL_law_30 : decode cL_law 30 = .ok (.bipush 63, 2) := by decide +kernel
theorem dL_law_32 : decode cL_law 32 = .ok (.iand, 1) := by decide +kernel
theorem dL_law_33 : decode cL_law 33 = .ok (.tableswitch 1638 0 39 #[175, 198, 231, 254, 297, 360, 383, 416, 439, 492, 505, 528, 539, 562, 595, 628, 661, 748, 801, 834, 898, 921, 964, 1039, 1062, 1115, 1168, 1222, 1255, 1308, 1341, 1364, 1388, 1431, 1454, 1477, 1530, 1563, 1576, 1615], 175) := by decide +kernel
theorem dL_law_208 : decode cL_law 208 = .ok (.aload_n 1, 1) := by decide +kernel
theorem dL_law_209 : decode cL_law 209 = .ok (.aload_n 0, 1) := by decide +kernel
theorem dL_law_210 : decode cL_law 210 = .ok (.iload_n 3, 1) := by decide +kernel
theorem dL_law_211 : decode cL_law 211 = .ok (.iconst 1, 1) := by decide +kernel
theorem dL_law_212 : decode cL_law 212 = .ok (.iadd, 1) := by decide +kernel
theorem dL_law_213 : decode cL_law 213 = .ok (.iaload, 1) := by decide +kernel
theorem dL_law_214 : decode cL_law 214 = .ok (.invokevirtual 13, 3) := by decide +kernel
theorem dL_law_217 : decode cL_law 217 = .ok (.aload_n 2, 1) := by decide +kernel
theorem dL_law_218 : decode cL_law 218 = .ok (.aload_n 0, 1) := by decide +kernel
theorem dL_law_219 : decode cL_law 219 = .ok (.iload_n 3, 1) := by decide +kernel
theorem dL_law_220 : decode cL_law 220 = .ok (.iconst 1, 1) := by decide +kernel
theorem dL_law_221 : decode cL_law 221 = .ok (.iadd, 1) := by decide +kernel
theorem dL_law_222 : decode cL_law 222 = .ok (.iaload, 1) := by decide +kernel
theorem dL_law_223 : decode cL_law 223 = .ok (.invokevirtual 17, 3) := by decide +kernel
theorem dL_law_226 : decode cL_law 226 = .ok (.if_icmp .eq 1445, 3) := by decide +kernel
theorem dL_law_229 : decode cL_law 229 = .ok (.iconst 0, 1) := by decide +kernel
theorem dL_law_230 : decode cL_law 230 = .ok (.ireturn, 1) := by decide +kernel
theorem dL_law_231 : decode cL_law 231 = .ok (.aload_n 1, 1) := by decide +kernel
theorem dL_law_232 : decode cL_law 232 = .ok (.aload_n 0, 1) := by decide +kernel
theorem dL_law_233 : decode cL_law 233 = .ok (.iload_n 3, 1) := by decide +kernel
theorem dL_law_234 : decode cL_law 234 = .ok (.iconst 1, 1) := by decide +kernel
theorem dL_law_235 : decode cL_law 235 = .ok (.iadd, 1) := by decide +kernel
theorem dL_law_236 : decode cL_law 236 = .ok (.iaload, 1) := by decide +kernel
theorem dL_law_237 : decode cL_law 237 = .ok (.aload_n 0, 1) := by decide +kernel
theorem dL_law_238 : decode cL_law 238 = .ok (.iload_n 3, 1) := by decide +kernel
theorem dL_law_239 : decode cL_law 239 = .ok (.iconst 2, 1) := by decide +kernel
theorem dL_law_240 : decode cL_law 240 = .ok (.iadd, 1) := by decide +kernel
theorem dL_law_241 : decode cL_law 241 = .ok (.iaload, 1) := by decide +kernel
theorem dL_law_242 : decode cL_law 242 = .ok (.invokevirtual 18, 3) := by decide +kernel
theorem dL_law_245 : decode cL_law 245 = .ok (.aload_n 2, 1) := by decide +kernel
theorem dL_law_246 : decode cL_law 246 = .ok (.aload_n 0, 1) := by decide +kernel
theorem dL_law_247 : decode cL_law 247 = .ok (.iload_n 3, 1) := by decide +kernel
theorem dL_law_248 : decode cL_law 248 = .ok (.iconst 1, 1) := by decide +kernel
theorem dL_law_249 : decode cL_law 249 = .ok (.iadd, 1) := by decide +kernel
theorem dL_law_250 : decode cL_law 250 = .ok (.iaload, 1) := by decide +kernel
theorem dL_law_251 : decode cL_law 251 = .ok (.aload_n 0, 1) := by decide +kernel
theorem dL_law_252 : decode cL_law 252 = .ok (.iload_n 3, 1) := by decide +kernel
theorem dL_law_253 : decode cL_law 253 = .ok (.iconst 2, 1) := by decide +kernel
theorem dL_law_254 : decode cL_law 254 = .ok (.iadd, 1) := by decide +kernel
theorem dL_law_255 : decode cL_law 255 = .ok (.iaload, 1) := by decide +kernel
theorem dL_law_256 : decode cL_law 256 = .ok (.invokevirtual 22, 3) := by decide +kernel
theorem dL_law_259 : decode cL_law 259 = .ok (.if_icmp .eq 1412, 3) := by decide +kernel
theorem dL_law_262 : decode cL_law 262 = .ok (.iconst 0, 1) := by decide +kernel
theorem dL_law_263 : decode cL_law 263 = .ok (.ireturn, 1) := by decide +kernel
theorem dL_law_264 : decode cL_law 264 = .ok (.aload_n 1, 1) := by decide +kernel
theorem dL_law_265 : decode cL_law 265 = .ok (.aload_n 0, 1) := by decide +kernel
theorem dL_law_266 : decode cL_law 266 = .ok (.iload_n 3, 1) := by decide +kernel
theorem dL_law_267 : decode cL_law 267 = .ok (.iconst 1, 1) := by decide +kernel
theorem dL_law_268 : decode cL_law 268 = .ok (.iadd, 1) := by decide +kernel
theorem dL_law_269 : decode cL_law 269 = .ok (.iaload, 1) := by decide +kernel
theorem dL_law_270 : decode cL_law 270 = .ok (.invokevirtual 23, 3) := by decide +kernel
theorem dL_law_273 : decode cL_law 273 = .ok (.aload_n 2, 1) := by decide +kernel
theorem dL_law_274 : decode cL_law 274 = .ok (.aload_n 0, 1) := by decide +kernel
theorem dL_law_275 : decode cL_law 275 = .ok (.iload_n 3, 1) := by decide +kernel
theorem dL_law_276 : decode cL_law 276 = .ok (.iconst 1, 1) := by decide +kernel
theorem dL_law_277 : decode cL_law 277 = .ok (.iadd, 1) := by decide +kernel
theorem dL_law_278 : decode cL_law 278 = .ok (.iaload, 1) := by decide +kernel
theorem dL_law_279 : decode cL_law 279 = .ok (.invokevirtual 26, 3) := by decide +kernel
theorem dL_law_282 : decode cL_law 282 = .ok (.if_icmp .eq 1389, 3) := by decide +kernel
theorem dL_law_285 : decode cL_law 285 = .ok (.iconst 0, 1) := by decide +kernel
theorem dL_law_286 : decode cL_law 286 = .ok (.ireturn, 1) := by decide +kernel
theorem dL_law_287 : decode cL_law 287 = .ok (.aload_n 1, 1) := by decide +kernel
theorem dL_law_288 : decode cL_law 288 = .ok (.aload_n 0, 1) := by decide +kernel
theorem dL_law_289 : decode cL_law 289 = .ok (.iload_n 3, 1) := by decide +kernel
theorem dL_law_290 : decode cL_law 290 = .ok (.iconst 1, 1) := by decide +kernel
theorem dL_law_291 : decode cL_law 291 = .ok (.iadd, 1) := by decide +kernel
theorem dL_law_292 : decode cL_law 292 = .ok (.iaload, 1) := by decide +kernel
theorem dL_law_293 : decode cL_law 293 = .ok (.aload_n 0, 1) := by decide +kernel
theorem dL_law_294 : decode cL_law 294 = .ok (.iload_n 3, 1) := by decide +kernel
theorem dL_law_295 : decode cL_law 295 = .ok (.iconst 2, 1) := by decide +kernel
theorem dL_law_296 : decode cL_law 296 = .ok (.iadd, 1) := by decide +kernel
theorem dL_law_297 : decode cL_law 297 = .ok (.iaload, 1) := by decide +kernel
theorem dL_law_298 : decode cL_law 298 = .ok (.aload_n 0, 1) := by decide +kernel
theorem dL_law_299 : decode cL_law 299 = .ok (.iload_n 3, 1) := by decide +kernel
theorem dL_law_300 : decode cL_law 300 = .ok (.iconst 3, 1) := by decide +kernel
theorem dL_law_301 : decode cL_law 301 = .ok (.iadd, 1) := by decide +kernel
theorem dL_law_302 : decode cL_law 302 = .ok (.iaload, 1) := by decide +kernel
theorem dL_law_303 : decode cL_law 303 = .ok (.invokevirtual 27, 3) := by decide +kernel
theorem dL_law_306 : decode cL_law 306 = .ok (.aload_n 2, 1) := by decide +kernel
theorem dL_law_307 : decode cL_law 307 = .ok (.aload_n 0, 1) := by decide +kernel
theorem dL_law_308 : decode cL_law 308 = .ok (.iload_n 3, 1) := by decide +kernel
theorem dL_law_309 : decode cL_law 309 = .ok (.iconst 1, 1) := by decide +kernel
theorem dL_law_310 : decode cL_law 310 = .ok (.iadd, 1) := by decide +kernel
theorem dL_law_311 : decode cL_law 311 = .ok (.iaload, 1) := by decide +kernel
theorem dL_law_312 : decode cL_law 312 = .ok (.aload_n 0, 1) := by decide +kernel
theorem dL_law_313 : decode cL_law 313 = .ok (.iload_n 3, 1) := by decide +kernel
theorem dL_law_314 : decode cL_law 314 = .ok (.iconst 2, 1) := by decide +kernel
theorem dL_law_315 : decode cL_law 315 = .ok (.iadd, 1) := by decide +kernel
theorem dL_law_316 : decode cL_law 316 = .ok (.iaload, 1) := by decide +kernel
theorem dL_law_317 : decode cL_law 317 = .ok (.aload_n 0, 1) := by decide +kernel
theorem dL_law_318 : decode cL_law 318 = .ok (.iload_n 3, 1) := by decide +kernel
theorem dL_law_319 : decode cL_law 319 = .ok (.iconst 3, 1) := by decide +kernel
theorem dL_law_320 : decode cL_law 320 = .ok (.iadd, 1) := by decide +kernel
theorem dL_law_321 : decode cL_law 321 = .ok (.iaload, 1) := by decide +kernel
theorem dL_law_322 : decode cL_law 322 = .ok (.invokevirtual 31, 3) := by decide +kernel
theorem dL_law_325 : decode cL_law 325 = .ok (.if_icmp .eq 1346, 3) := by decide +kernel
theorem dL_law_328 : decode cL_law 328 = .ok (.iconst 0, 1) := by decide +kernel
theorem dL_law_329 : decode cL_law 329 = .ok (.ireturn, 1) := by decide +kernel
theorem dL_law_330 : decode cL_law 330 = .ok (.aload_n 1, 1) := by decide +kernel
theorem dL_law_331 : decode cL_law 331 = .ok (.aload_n 0, 1) := by decide +kernel
theorem dL_law_332 : decode cL_law 332 = .ok (.iload_n 3, 1) := by decide +kernel
theorem dL_law_333 : decode cL_law 333 = .ok (.iconst 1, 1) := by decide +kernel
theorem dL_law_334 : decode cL_law 334 = .ok (.iadd, 1) := by decide +kernel
theorem dL_law_335 : decode cL_law 335 = .ok (.iaload, 1) := by decide +kernel
theorem dL_law_336 : decode cL_law 336 = .ok (.aload_n 0, 1) := by decide +kernel
theorem dL_law_337 : decode cL_law 337 = .ok (.iload_n 3, 1) := by decide +kernel
theorem dL_law_338 : decode cL_law 338 = .ok (.iconst 2, 1) := by decide +kernel
theorem dL_law_339 : decode cL_law 339 = .ok (.iadd, 1) := by decide +kernel
theorem dL_law_340 : decode cL_law 340 = .ok (.iaload, 1) := by decide +kernel
theorem dL_law_341 : decode cL_law 341 = .ok (.aload_n 0, 1) := by decide +kernel
theorem dL_law_342 : decode cL_law 342 = .ok (.iload_n 3, 1) := by decide +kernel
theorem dL_law_343 : decode cL_law 343 = .ok (.iconst 3, 1) := by decide +kernel
theorem dL_law_344 : decode cL_law 344 = .ok (.iadd, 1) := by decide +kernel
theorem dL_law_345 : decode cL_law 345 = .ok (.iaload, 1) := by decide +kernel
theorem dL_law_346 : decode cL_law 346 = .ok (.aload_n 0, 1) := by decide +kernel
theorem dL_law_347 : decode cL_law 347 = .ok (.iload_n 3, 1) := by decide +kernel
theorem dL_law_348 : decode cL_law 348 = .ok (.iconst 4, 1) := by decide +kernel
theorem dL_law_349 : decode cL_law 349 = .ok (.iadd, 1) := by decide +kernel
theorem dL_law_350 : decode cL_law 350 = .ok (.iaload, 1) := by decide +kernel
theorem dL_law_351 : decode cL_law 351 = .ok (.aload_n 0, 1) := by decide +kernel
theorem dL_law_352 : decode cL_law 352 = .ok (.iload_n 3, 1) := by decide +kernel
theorem dL_law_353 : decode cL_law 353 = .ok (.iconst 5, 1) := by decide +kernel
theorem dL_law_354 : decode cL_law 354 = .ok (.iadd, 1) := by decide +kernel
theorem dL_law_355 : decode cL_law 355 = .ok (.iaload, 1) := by decide +kernel
theorem dL_law_356 : decode cL_law 356 = .ok (.invokevirtual 32, 3) := by decide +kernel
theorem dL_law_359 : decode cL_law 359 = .ok (.aload_n 2, 1) := by decide +kernel
theorem dL_law_360 : decode cL_law 360 = .ok (.aload_n 0, 1) := by decide +kernel
theorem dL_law_361 : decode cL_law 361 = .ok (.iload_n 3, 1) := by decide +kernel
theorem dL_law_362 : decode cL_law 362 = .ok (.iconst 1, 1) := by decide +kernel
theorem dL_law_363 : decode cL_law 363 = .ok (.iadd, 1) := by decide +kernel
theorem dL_law_364 : decode cL_law 364 = .ok (.iaload, 1) := by decide +kernel
theorem dL_law_365 : decode cL_law 365 = .ok (.aload_n 0, 1) := by decide +kernel
theorem dL_law_366 : decode cL_law 366 = .ok (.iload_n 3, 1) := by decide +kernel
theorem dL_law_367 : decode cL_law 367 = .ok (.iconst 2, 1) := by decide +kernel
theorem dL_law_368 : decode cL_law 368 = .ok (.iadd, 1) := by decide +kernel
theorem dL_law_369 : decode cL_law 369 = .ok (.iaload, 1) := by decide +kernel
theorem dL_law_370 : decode cL_law 370 = .ok (.aload_n 0, 1) := by decide +kernel
theorem dL_law_371 : decode cL_law 371 = .ok (.iload_n 3, 1) := by decide +kernel
theorem dL_law_372 : decode cL_law 372 = .ok (.iconst 3, 1) := by decide +kernel
theorem dL_law_373 : decode cL_law 373 = .ok (.iadd, 1) := by decide +kernel
theorem dL_law_374 : decode cL_law 374 = .ok (.iaload, 1) := by decide +kernel
theorem dL_law_375 : decode cL_law 375 = .ok (.aload_n 0, 1) := by decide +kernel
theorem dL_law_376 : decode cL_law 376 = .ok (.iload_n 3, 1) := by decide +kernel
theorem dL_law_377 : decode cL_law 377 = .ok (.iconst 4, 1) := by decide +kernel
theorem dL_law_378 : decode cL_law 378 = .ok (.iadd, 1) := by decide +kernel
theorem dL_law_379 : decode cL_law 379 = .ok (.iaload, 1) := by decide +kernel
theorem dL_law_380 : decode cL_law 380 = .ok (.aload_n 0, 1) := by decide +kernel
theorem dL_law_381 : decode cL_law 381 = .ok (.iload_n 3, 1) := by decide +kernel
theorem dL_law_382 : decode cL_law 382 = .ok (.iconst 5, 1) := by decide +kernel
theorem dL_law_383 : decode cL_law 383 = .ok (.iadd, 1) := by decide +kernel
theorem dL_law_384 : decode cL_law 384 = .ok (.iaload, 1) := by decide +kernel
theorem dL_law_385 : decode cL_law 385 = .ok (.invokevirtual 36, 3) := by decide +kernel
theorem dL_law_388 : decode cL_law 388 = .ok (.if_icmp .eq 1283, 3) := by decide +kernel
theorem dL_law_391 : decode cL_law 391 = .ok (.iconst 0, 1) := by decide +kernel
theorem dL_law_392 : decode cL_law 392 = .ok (.ireturn, 1) := by decide +kernel
theorem dL_law_393 : decode cL_law 393 = .ok (.aload_n 1, 1) := by decide +kernel
theorem dL_law_394 : decode cL_law 394 = .ok (.aload_n 0, 1) := by decide +kernel
theorem dL_law_395 : decode cL_law 395 = .ok (.iload_n 3, 1) := by decide +kernel
theorem dL_law_396 : decode cL_law 396 = .ok (.iconst 1, 1) := by decide +kernel
theorem dL_law_397 : decode cL_law 397 = .ok (.iadd, 1) := by decide +kernel
theorem dL_law_398 : decode cL_law 398 = .ok (.iaload, 1) := by decide +kernel
theorem dL_law_399 : decode cL_law 399 = .ok (.invokevirtual 37, 3) := by decide +kernel
theorem dL_law_402 : decode cL_law 402 = .ok (.aload_n 2, 1) := by decide +kernel
theorem dL_law_403 : decode cL_law 403 = .ok (.aload_n 0, 1) := by decide +kernel
theorem dL_law_404 : decode cL_law 404 = .ok (.iload_n 3, 1) := by decide +kernel
theorem dL_law_405 : decode cL_law 405 = .ok (.iconst 1, 1) := by decide +kernel
theorem dL_law_406 : decode cL_law 406 = .ok (.iadd, 1) := by decide +kernel
theorem dL_law_407 : decode cL_law 407 = .ok (.iaload, 1) := by decide +kernel
theorem dL_law_408 : decode cL_law 408 = .ok (.invokevirtual 41, 3) := by decide +kernel
theorem dL_law_411 : decode cL_law 411 = .ok (.if_icmp .eq 1260, 3) := by decide +kernel
theorem dL_law_414 : decode cL_law 414 = .ok (.iconst 0, 1) := by decide +kernel
theorem dL_law_415 : decode cL_law 415 = .ok (.ireturn, 1) := by decide +kernel
theorem dL_law_416 : decode cL_law 416 = .ok (.aload_n 1, 1) := by decide +kernel
theorem dL_law_417 : decode cL_law 417 = .ok (.aload_n 0, 1) := by decide +kernel
theorem dL_law_418 : decode cL_law 418 = .ok (.iload_n 3, 1) := by decide +kernel
theorem dL_law_419 : decode cL_law 419 = .ok (.iconst 1, 1) := by decide +kernel
theorem dL_law_420 : decode cL_law 420 = .ok (.iadd, 1) := by decide +kernel
theorem dL_law_421 : decode cL_law 421 = .ok (.iaload, 1) := by decide +kernel
theorem dL_law_422 : decode cL_law 422 = .ok (.aload_n 0, 1) := by decide +kernel
theorem dL_law_423 : decode cL_law 423 = .ok (.iload_n 3, 1) := by decide +kernel
theorem dL_law_424 : decode cL_law 424 = .ok (.iconst 2, 1) := by decide +kernel
theorem dL_law_425 : decode cL_law 425 = .ok (.iadd, 1) := by decide +kernel
theorem dL_law_426 : decode cL_law 426 = .ok (.iaload, 1) := by decide +kernel
theorem dL_law_427 : decode cL_law 427 = .ok (.invokevirtual 42, 3) := by decide +kernel
theorem dL_law_430 : decode cL_law 430 = .ok (.aload_n 2, 1) := by decide +kernel
theorem dL_law_431 : decode cL_law 431 = .ok (.aload_n 0, 1) := by decide +kernel
theorem dL_law_432 : decode cL_law 432 = .ok (.iload_n 3, 1) := by decide +kernel
theorem dL_law_433 : decode cL_law 433 = .ok (.iconst 1, 1) := by decide +kernel
theorem dL_law_434 : decode cL_law 434 = .ok (.iadd, 1) := by decide +kernel
theorem dL_law_435 : decode cL_law 435 = .ok (.iaload, 1) := by decide +kernel
theorem dL_law_436 : decode cL_law 436 = .ok (.aload_n 0, 1) := by decide +kernel
theorem dL_law_437 : decode cL_law 437 = .ok (.iload_n 3, 1) := by decide +kernel
theorem dL_law_438 : decode cL_law 438 = .ok (.iconst 2, 1) := by decide +kernel
theorem dL_law_439 : decode cL_law 439 = .ok (.iadd, 1) := by decide +kernel
theorem dL_law_440 : decode cL_law 440 = .ok (.iaload, 1) := by decide +kernel
theorem dL_law_441 : decode cL_law 441 = .ok (.invokevirtual 45, 3) := by decide +kernel
theorem dL_law_444 : decode cL_law 444 = .ok (.if_icmp .eq 1227, 3) := by decide +kernel
theorem dL_law_447 : decode cL_law 447 = .ok (.iconst 0, 1) := by decide +kernel
theorem dL_law_448 : decode cL_law 448 = .ok (.ireturn, 1) := by decide +kernel
theorem dL_law_449 : decode cL_law 449 = .ok (.aload_n 1, 1) := by decide +kernel
theorem dL_law_450 : decode cL_law 450 = .ok (.aload_n 0, 1) := by decide +kernel
theorem dL_law_451 : decode cL_law 451 = .ok (.iload_n 3, 1) := by decide +kernel
theorem dL_law_452 : decode cL_law 452 = .ok (.iconst 1, 1) := by decide +kernel
theorem dL_law_453 : decode cL_law 453 = .ok (.iadd, 1) := by decide +kernel
theorem dL_law_454 : decode cL_law 454 = .ok (.iaload, 1) := by decide +kernel
theorem dL_law_455 : decode cL_law 455 = .ok (.invokevirtual 46, 3) := by decide +kernel
theorem dL_law_458 : decode cL_law 458 = .ok (.aload_n 2, 1) := by decide +kernel
theorem dL_law_459 : decode cL_law 459 = .ok (.aload_n 0, 1) := by decide +kernel
theorem dL_law_460 : decode cL_law 460 = .ok (.iload_n 3, 1) := by decide +kernel
theorem dL_law_461 : decode cL_law 461 = .ok (.iconst 1, 1) := by decide +kernel
theorem dL_law_462 : decode cL_law 462 = .ok (.iadd, 1) := by decide +kernel
theorem dL_law_463 : decode cL_law 463 = .ok (.iaload, 1) := by decide +kernel
theorem dL_law_464 : decode cL_law 464 = .ok (.invokevirtual 49, 3) := by decide +kernel
theorem dL_law_467 : decode cL_law 467 = .ok (.if_icmp .eq 1204, 3) := by decide +kernel
theorem dL_law_470 : decode cL_law 470 = .ok (.iconst 0, 1) := by decide +kernel
theorem dL_law_471 : decode cL_law 471 = .ok (.ireturn, 1) := by decide +kernel
theorem dL_law_472 : decode cL_law 472 = .ok (.aload_n 1, 1) := by decide +kernel
theorem dL_law_473 : decode cL_law 473 = .ok (.aload_n 0, 1) := by decide +kernel
theorem dL_law_474 : decode cL_law 474 = .ok (.iload_n 3, 1) := by decide +kernel
theorem dL_law_475 : decode cL_law 475 = .ok (.iconst 1, 1) := by decide +kernel
theorem dL_law_476 : decode cL_law 476 = .ok (.iadd, 1) := by decide +kernel
theorem dL_law_477 : decode cL_law 477 = .ok (.iaload, 1) := by decide +kernel
theorem dL_law_478 : decode cL_law 478 = .ok (.aload_n 0, 1) := by decide +kernel
theorem dL_law_479 : decode cL_law 479 = .ok (.iload_n 3, 1) := by decide +kernel
theorem dL_law_480 : decode cL_law 480 = .ok (.iconst 2, 1) := by decide +kernel
theorem dL_law_481 : decode cL_law 481 = .ok (.iadd, 1) := by decide +kernel
theorem dL_law_482 : decode cL_law 482 = .ok (.iaload, 1) := by decide +kernel
theorem dL_law_483 : decode cL_law 483 = .ok (.aload_n 0, 1) := by decide +kernel
theorem dL_law_484 : decode cL_law 484 = .ok (.iload_n 3, 1) := by decide +kernel
theorem dL_law_485 : decode cL_law 485 = .ok (.iconst 3, 1) := by decide +kernel
theorem dL_law_486 : decode cL_law 486 = .ok (.iadd, 1) := by decide +kernel
theorem dL_law_487 : decode cL_law 487 = .ok (.iaload, 1) := by decide +kernel
theorem dL_law_488 : decode cL_law 488 = .ok (.aload_n 0, 1) := by decide +kernel
theorem dL_law_489 : decode cL_law 489 = .ok (.iload_n 3, 1) := by decide +kernel
theorem dL_law_490 : decode cL_law 490 = .ok (.iconst 4, 1) := by decide +kernel
theorem dL_law_491 : decode cL_law 491 = .ok (.iadd, 1) := by decide +kernel
theorem dL_law_492 : decode cL_law 492 = .ok (.iaload, 1) := by decide +kernel
theorem dL_law_493 : decode cL_law 493 = .ok (.invokevirtual 50, 3) := by decide +kernel
theorem dL_law_496 : decode cL_law 496 = .ok (.aload_n 2, 1) := by decide +kernel
theorem dL_law_497 : decode cL_law 497 = .ok (.aload_n 0, 1) := by decide +kernel
theorem dL_law_498 : decode cL_law 498 = .ok (.iload_n 3, 1) := by decide +kernel
theorem dL_law_499 : decode cL_law 499 = .ok (.iconst 1, 1) := by decide +kernel
theorem dL_law_500 : decode cL_law 500 = .ok (.iadd, 1) := by decide +kernel
theorem dL_law_501 : decode cL_law 501 = .ok (.iaload, 1) := by decide +kernel
theorem dL_law_502 : decode cL_law 502 = .ok (.aload_n 0, 1) := by decide +kernel
theorem dL_law_503 : decode cL_law 503 = .ok (.iload_n 3, 1) := by decide +kernel
theorem dL_law_504 : decode cL_law 504 = .ok (.iconst 2, 1) := by decide +kernel
theorem dL_law_505 : decode cL_law 505 = .ok (.iadd, 1) := by decide +kernel
theorem dL_law_506 : decode cL_law 506 = .ok (.iaload, 1) := by decide +kernel
theorem dL_law_507 : decode cL_law 507 = .ok (.aload_n 0, 1) := by decide +kernel
theorem dL_law_508 : decode cL_law 508 = .ok (.iload_n 3, 1) := by decide +kernel
theorem dL_law_509 : decode cL_law 509 = .ok (.iconst 3, 1) := by decide +kernel
theorem dL_law_510 : decode cL_law 510 = .ok (.iadd, 1) := by decide +kernel
theorem dL_law_511 : decode cL_law 511 = .ok (.iaload, 1) := by decide +kernel
theorem dL_law_512 : decode cL_law 512 = .ok (.aload_n 0, 1) := by decide +kernel
theorem dL_law_513 : decode cL_law 513 = .ok (.iload_n 3, 1) := by decide +kernel
theorem dL_law_514 : decode cL_law 514 = .ok (.iconst 4, 1) := by decide +kernel
theorem dL_law_515 : decode cL_law 515 = .ok (.iadd, 1) := by decide +kernel
theorem dL_law_516 : decode cL_law 516 = .ok (.iaload, 1) := by decide +kernel
theorem dL_law_517 : decode cL_law 517 = .ok (.invokevirtual 54, 3) := by decide +kernel
theorem dL_law_520 : decode cL_law 520 = .ok (.if_icmp .eq 1151, 3) := by decide +kernel
theorem dL_law_523 : decode cL_law 523 = .ok (.iconst 0, 1) := by decide +kernel
theorem dL_law_524 : decode cL_law 524 = .ok (.ireturn, 1) := by decide +kernel
theorem dL_law_525 : decode cL_law 525 = .ok (.aload_n 1, 1) := by decide +kernel
theorem dL_law_526 : decode cL_law 526 = .ok (.invokevirtual 55, 3) := by decide +kernel
theorem dL_law_529 : decode cL_law 529 = .ok (.aload_n 2, 1) := by decide +kernel
theorem dL_law_530 : decode cL_law 530 = .ok (.invokevirtual 59, 3) := by decide +kernel
theorem dL_law_533 : decode cL_law 533 = .ok (.if_icmp .eq 1138, 3) := by decide +kernel
theorem dL_law_536 : decode cL_law 536 = .ok (.iconst 0, 1) := by decide +kernel
theorem dL_law_537 : decode cL_law 537 = .ok (.ireturn, 1) := by decide +kernel
theorem dL_law_538 : decode cL_law 538 = .ok (.aload_n 1, 1) := by decide +kernel
theorem dL_law_539 : decode cL_law 539 = .ok (.aload_n 0, 1) := by decide +kernel
theorem dL_law_540 : decode cL_law 540 = .ok (.iload_n 3, 1) := by decide +kernel
theorem dL_law_541 : decode cL_law 541 = .ok (.iconst 1, 1) := by decide +kernel
theorem dL_law_542 : decode cL_law 542 = .ok (.iadd, 1) := by decide +kernel
theorem dL_law_543 : decode cL_law 543 = .ok (.iaload, 1) := by decide +kernel
theorem dL_law_544 : decode cL_law 544 = .ok (.invokevirtual 60, 3) := by decide +kernel
theorem dL_law_547 : decode cL_law 547 = .ok (.aload_n 2, 1) := by decide +kernel
theorem dL_law_548 : decode cL_law 548 = .ok (.aload_n 0, 1) := by decide +kernel
theorem dL_law_549 : decode cL_law 549 = .ok (.iload_n 3, 1) := by decide +kernel
theorem dL_law_550 : decode cL_law 550 = .ok (.iconst 1, 1) := by decide +kernel
theorem dL_law_551 : decode cL_law 551 = .ok (.iadd, 1) := by decide +kernel
theorem dL_law_552 : decode cL_law 552 = .ok (.iaload, 1) := by decide +kernel
theorem dL_law_553 : decode cL_law 553 = .ok (.invokevirtual 63, 3) := by decide +kernel
theorem dL_law_556 : decode cL_law 556 = .ok (.if_icmp .eq 1115, 3) := by decide +kernel
theorem dL_law_559 : decode cL_law 559 = .ok (.iconst 0, 1) := by decide +kernel
theorem dL_law_560 : decode cL_law 560 = .ok (.ireturn, 1) := by decide +kernel
theorem dL_law_561 : decode cL_law 561 = .ok (.aload_n 1, 1) := by decide +kernel
theorem dL_law_562 : decode cL_law 562 = .ok (.invokevirtual 64, 3) := by decide +kernel
theorem dL_law_565 : decode cL_law 565 = .ok (.aload_n 2, 1) := by decide +kernel
theorem dL_law_566 : decode cL_law 566 = .ok (.invokevirtual 67, 3) := by decide +kernel
theorem dL_law_569 : decode cL_law 569 = .ok (.goto 1102, 3) := by decide +kernel
theorem dL_law_572 : decode cL_law 572 = .ok (.aload_n 1, 1) := by decide +kernel
theorem dL_law_573 : decode cL_law 573 = .ok (.aload_n 0, 1) := by decide +kernel
theorem dL_law_574 : decode cL_law 574 = .ok (.iload_n 3, 1) := by decide +kernel
theorem dL_law_575 : decode cL_law 575 = .ok (.iconst 1, 1) := by decide +kernel
theorem dL_law_576 : decode cL_law 576 = .ok (.iadd, 1) := by decide +kernel
theorem dL_law_577 : decode cL_law 577 = .ok (.iaload, 1) := by decide +kernel
theorem dL_law_578 : decode cL_law 578 = .ok (.invokevirtual 68, 3) := by decide +kernel
theorem dL_law_581 : decode cL_law 581 = .ok (.aload_n 2, 1) := by decide +kernel
theorem dL_law_582 : decode cL_law 582 = .ok (.aload_n 0, 1) := by decide +kernel
theorem dL_law_583 : decode cL_law 583 = .ok (.iload_n 3, 1) := by decide +kernel
theorem dL_law_584 : decode cL_law 584 = .ok (.iconst 1, 1) := by decide +kernel
theorem dL_law_585 : decode cL_law 585 = .ok (.iadd, 1) := by decide +kernel
theorem dL_law_586 : decode cL_law 586 = .ok (.iaload, 1) := by decide +kernel
theorem dL_law_587 : decode cL_law 587 = .ok (.invokevirtual 71, 3) := by decide +kernel
theorem dL_law_590 : decode cL_law 590 = .ok (.if_icmp .eq 1081, 3) := by decide +kernel
theorem dL_law_593 : decode cL_law 593 = .ok (.iconst 0, 1) := by decide +kernel
theorem dL_law_594 : decode cL_law 594 = .ok (.ireturn, 1) := by decide +kernel
theorem dL_law_595 : decode cL_law 595 = .ok (.aload_n 1, 1) := by decide +kernel
theorem dL_law_596 : decode cL_law 596 = .ok (.aload_n 0, 1) := by decide +kernel
theorem dL_law_597 : decode cL_law 597 = .ok (.iload_n 3, 1) := by decide +kernel
theorem dL_law_598 : decode cL_law 598 = .ok (.iconst 1, 1) := by decide +kernel
theorem dL_law_599 : decode cL_law 599 = .ok (.iadd, 1) := by decide +kernel
theorem dL_law_600 : decode cL_law 600 = .ok (.iaload, 1) := by decide +kernel
theorem dL_law_601 : decode cL_law 601 = .ok (.aload_n 0, 1) := by decide +kernel
theorem dL_law_602 : decode cL_law 602 = .ok (.iload_n 3, 1) := by decide +kernel
theorem dL_law_603 : decode cL_law 603 = .ok (.iconst 2, 1) := by decide +kernel
theorem dL_law_604 : decode cL_law 604 = .ok (.iadd, 1) := by decide +kernel
theorem dL_law_605 : decode cL_law 605 = .ok (.iaload, 1) := by decide +kernel
theorem dL_law_606 : decode cL_law 606 = .ok (.invokevirtual 72, 3) := by decide +kernel
theorem dL_law_609 : decode cL_law 609 = .ok (.aload_n 2, 1) := by decide +kernel
theorem dL_law_610 : decode cL_law 610 = .ok (.aload_n 0, 1) := by decide +kernel
theorem dL_law_611 : decode cL_law 611 = .ok (.iload_n 3, 1) := by decide +kernel
theorem dL_law_612 : decode cL_law 612 = .ok (.iconst 1, 1) := by decide +kernel
theorem dL_law_613 : decode cL_law 613 = .ok (.iadd, 1) := by decide +kernel
theorem dL_law_614 : decode cL_law 614 = .ok (.iaload, 1) := by decide +kernel
theorem dL_law_615 : decode cL_law 615 = .ok (.aload_n 0, 1) := by decide +kernel
theorem dL_law_616 : decode cL_law 616 = .ok (.iload_n 3, 1) := by decide +kernel
theorem dL_law_617 : decode cL_law 617 = .ok (.iconst 2, 1) := by decide +kernel
theorem dL_law_618 : decode cL_law 618 = .ok (.iadd, 1) := by decide +kernel
theorem dL_law_619 : decode cL_law 619 = .ok (.iaload, 1) := by decide +kernel
theorem dL_law_620 : decode cL_law 620 = .ok (.invokevirtual 75, 3) := by decide +kernel
theorem dL_law_623 : decode cL_law 623 = .ok (.if_icmp .eq 1048, 3) := by decide +kernel
theorem dL_law_626 : decode cL_law 626 = .ok (.iconst 0, 1) := by decide +kernel
theorem dL_law_627 : decode cL_law 627 = .ok (.ireturn, 1) := by decide +kernel
theorem dL_law_628 : decode cL_law 628 = .ok (.aload_n 1, 1) := by decide +kernel
theorem dL_law_629 : decode cL_law 629 = .ok (.aload_n 0, 1) := by decide +kernel
theorem dL_law_630 : decode cL_law 630 = .ok (.iload_n 3, 1) := by decide +kernel
theorem dL_law_631 : decode cL_law 631 = .ok (.iconst 1, 1) := by decide +kernel
theorem dL_law_632 : decode cL_law 632 = .ok (.iadd, 1) := by decide +kernel
theorem dL_law_633 : decode cL_law 633 = .ok (.iaload, 1) := by decide +kernel
theorem dL_law_634 : decode cL_law 634 = .ok (.aload_n 0, 1) := by decide +kernel
theorem dL_law_635 : decode cL_law 635 = .ok (.iload_n 3, 1) := by decide +kernel
theorem dL_law_636 : decode cL_law 636 = .ok (.iconst 2, 1) := by decide +kernel
theorem dL_law_637 : decode cL_law 637 = .ok (.iadd, 1) := by decide +kernel
theorem dL_law_638 : decode cL_law 638 = .ok (.iaload, 1) := by decide +kernel
theorem dL_law_639 : decode cL_law 639 = .ok (.invokevirtual 76, 3) := by decide +kernel
theorem dL_law_642 : decode cL_law 642 = .ok (.aload_n 2, 1) := by decide +kernel
theorem dL_law_643 : decode cL_law 643 = .ok (.aload_n 0, 1) := by decide +kernel
theorem dL_law_644 : decode cL_law 644 = .ok (.iload_n 3, 1) := by decide +kernel
theorem dL_law_645 : decode cL_law 645 = .ok (.iconst 1, 1) := by decide +kernel
theorem dL_law_646 : decode cL_law 646 = .ok (.iadd, 1) := by decide +kernel
theorem dL_law_647 : decode cL_law 647 = .ok (.iaload, 1) := by decide +kernel
theorem dL_law_648 : decode cL_law 648 = .ok (.aload_n 0, 1) := by decide +kernel
theorem dL_law_649 : decode cL_law 649 = .ok (.iload_n 3, 1) := by decide +kernel
theorem dL_law_650 : decode cL_law 650 = .ok (.iconst 2, 1) := by decide +kernel
theorem dL_law_651 : decode cL_law 651 = .ok (.iadd, 1) := by decide +kernel
theorem dL_law_652 : decode cL_law 652 = .ok (.iaload, 1) := by decide +kernel
theorem dL_law_653 : decode cL_law 653 = .ok (.invokevirtual 79, 3) := by decide +kernel
theorem dL_law_656 : decode cL_law 656 = .ok (.if_icmp .eq 1015, 3) := by decide +kernel
theorem dL_law_659 : decode cL_law 659 = .ok (.iconst 0, 1) := by decide +kernel
theorem dL_law_660 : decode cL_law 660 = .ok (.ireturn, 1) := by decide +kernel
theorem dL_law_661 : decode cL_law 661 = .ok (.aload_n 1, 1) := by decide +kernel
theorem dL_law_662 : decode cL_law 662 = .ok (.aload_n 0, 1) := by decide +kernel
theorem dL_law_663 : decode cL_law 663 = .ok (.iload_n 3, 1) := by decide +kernel
theorem dL_law_664 : decode cL_law 664 = .ok (.iconst 1, 1) := by decide +kernel
theorem dL_law_665 : decode cL_law 665 = .ok (.iadd, 1) := by decide +kernel
theorem dL_law_666 : decode cL_law 666 = .ok (.iaload, 1) := by decide +kernel
theorem dL_law_667 : decode cL_law 667 = .ok (.aload_n 0, 1) := by decide +kernel
theorem dL_law_668 : decode cL_law 668 = .ok (.iload_n 3, 1) := by decide +kernel
theorem dL_law_669 : decode cL_law 669 = .ok (.iconst 2, 1) := by decide +kernel
theorem dL_law_670 : decode cL_law 670 = .ok (.iadd, 1) := by decide +kernel
theorem dL_law_671 : decode cL_law 671 = .ok (.iaload, 1) := by decide +kernel
theorem dL_law_672 : decode cL_law 672 = .ok (.invokevirtual 80, 3) := by decide +kernel
theorem dL_law_675 : decode cL_law 675 = .ok (.aload_n 2, 1) := by decide +kernel
theorem dL_law_676 : decode cL_law 676 = .ok (.aload_n 0, 1) := by decide +kernel
theorem dL_law_677 : decode cL_law 677 = .ok (.iload_n 3, 1) := by decide +kernel
theorem dL_law_678 : decode cL_law 678 = .ok (.iconst 1, 1) := by decide +kernel
theorem dL_law_679 : decode cL_law 679 = .ok (.iadd, 1) := by decide +kernel
theorem dL_law_680 : decode cL_law 680 = .ok (.iaload, 1) := by decide +kernel
theorem dL_law_681 : decode cL_law 681 = .ok (.aload_n 0, 1) := by decide +kernel
theorem dL_law_682 : decode cL_law 682 = .ok (.iload_n 3, 1) := by decide +kernel
theorem dL_law_683 : decode cL_law 683 = .ok (.iconst 2, 1) := by decide +kernel
theorem dL_law_684 : decode cL_law 684 = .ok (.iadd, 1) := by decide +kernel
theorem dL_law_685 : decode cL_law 685 = .ok (.iaload, 1) := by decide +kernel
theorem dL_law_686 : decode cL_law 686 = .ok (.invokevirtual 83, 3) := by decide +kernel
theorem dL_law_689 : decode cL_law 689 = .ok (.if_icmp .eq 982, 3) := by decide +kernel
theorem dL_law_692 : decode cL_law 692 = .ok (.iconst 0, 1) := by decide +kernel
theorem dL_law_693 : decode cL_law 693 = .ok (.ireturn, 1) := by decide +kernel
theorem dL_law_694 : decode cL_law 694 = .ok (.aload_n 1, 1) := by decide +kernel
theorem dL_law_695 : decode cL_law 695 = .ok (.aload_n 0, 1) := by decide +kernel
theorem dL_law_696 : decode cL_law 696 = .ok (.iload_n 3, 1) := by decide +kernel
theorem dL_law_697 : decode cL_law 697 = .ok (.iconst 1, 1) := by decide +kernel
theorem dL_law_698 : decode cL_law 698 = .ok (.iadd, 1) := by decide +kernel
theorem dL_law_699 : decode cL_law 699 = .ok (.iaload, 1) := by decide +kernel
theorem dL_law_700 : decode cL_law 700 = .ok (.aload_n 0, 1) := by decide +kernel
theorem dL_law_701 : decode cL_law 701 = .ok (.iload_n 3, 1) := by decide +kernel
theorem dL_law_702 : decode cL_law 702 = .ok (.iconst 2, 1) := by decide +kernel
theorem dL_law_703 : decode cL_law 703 = .ok (.iadd, 1) := by decide +kernel
theorem dL_law_704 : decode cL_law 704 = .ok (.iaload, 1) := by decide +kernel
theorem dL_law_705 : decode cL_law 705 = .ok (.aload_n 0, 1) := by decide +kernel
theorem dL_law_706 : decode cL_law 706 = .ok (.iload_n 3, 1) := by decide +kernel
theorem dL_law_707 : decode cL_law 707 = .ok (.iconst 3, 1) := by decide +kernel
theorem dL_law_708 : decode cL_law 708 = .ok (.iadd, 1) := by decide +kernel
theorem dL_law_709 : decode cL_law 709 = .ok (.iaload, 1) := by decide +kernel
theorem dL_law_710 : decode cL_law 710 = .ok (.aload_n 0, 1) := by decide +kernel
theorem dL_law_711 : decode cL_law 711 = .ok (.iload_n 3, 1) := by decide +kernel
theorem dL_law_712 : decode cL_law 712 = .ok (.iconst 4, 1) := by decide +kernel
theorem dL_law_713 : decode cL_law 713 = .ok (.iadd, 1) := by decide +kernel
theorem dL_law_714 : decode cL_law 714 = .ok (.iaload, 1) := by decide +kernel
theorem dL_law_715 : decode cL_law 715 = .ok (.aload_n 0, 1) := by decide +kernel
theorem dL_law_716 : decode cL_law 716 = .ok (.iload_n 3, 1) := by decide +kernel
theorem dL_law_717 : decode cL_law 717 = .ok (.iconst 5, 1) := by decide +kernel
theorem dL_law_718 : decode cL_law 718 = .ok (.iadd, 1) := by decide +kernel
theorem dL_law_719 : decode cL_law 719 = .ok (.iaload, 1) := by decide +kernel
theorem dL_law_720 : decode cL_law 720 = .ok (.aload_n 0, 1) := by decide +kernel
theorem dL_law_721 : decode cL_law 721 = .ok (.iload_n 3, 1) := by decide +kernel
theorem dL_law_722 : decode cL_law 722 = .ok (.bipush 6, 2) := by decide +kernel
theorem dL_law_724 : decode cL_law 724 = .ok (.iadd, 1) := by decide +kernel
theorem dL_law_725 : decode cL_law 725 = .ok (.iaload, 1) := by decide +kernel
theorem dL_law_726 : decode cL_law 726 = .ok (.aload_n 0, 1) := by decide +kernel
theorem dL_law_727 : decode cL_law 727 = .ok (.iload_n 3, 1) := by decide +kernel
theorem dL_law_728 : decode cL_law 728 = .ok (.bipush 7, 2) := by decide +kernel
theorem dL_law_730 : decode cL_law 730 = .ok (.iadd, 1) := by decide +kernel
theorem dL_law_731 : decode cL_law 731 = .ok (.iaload, 1) := by decide +kernel
theorem dL_law_732 : decode cL_law 732 = .ok (.invokevirtual 84, 3) := by decide +kernel
theorem dL_law_735 : decode cL_law 735 = .ok (.aload_n 2, 1) := by decide +kernel
theorem dL_law_736 : decode cL_law 736 = .ok (.aload_n 0, 1) := by decide +kernel
theorem dL_law_737 : decode cL_law 737 = .ok (.iload_n 3, 1) := by decide +kernel
theorem dL_law_738 : decode cL_law 738 = .ok (.iconst 1, 1) := by decide +kernel
theorem dL_law_739 : decode cL_law 739 = .ok (.iadd, 1) := by decide +kernel
theorem dL_law_740 : decode cL_law 740 = .ok (.iaload, 1) := by decide +kernel
theorem dL_law_741 : decode cL_law 741 = .ok (.aload_n 0, 1) := by decide +kernel
theorem dL_law_742 : decode cL_law 742 = .ok (.iload_n 3, 1) := by decide +kernel
theorem dL_law_743 : decode cL_law 743 = .ok (.iconst 2, 1) := by decide +kernel
theorem dL_law_744 : decode cL_law 744 = .ok (.iadd, 1) := by decide +kernel
theorem dL_law_745 : decode cL_law 745 = .ok (.iaload, 1) := by decide +kernel
theorem dL_law_746 : decode cL_law 746 = .ok (.aload_n 0, 1) := by decide +kernel
theorem dL_law_747 : decode cL_law 747 = .ok (.iload_n 3, 1) := by decide +kernel
theorem dL_law_748 : decode cL_law 748 = .ok (.iconst 3, 1) := by decide +kernel
theorem dL_law_749 : decode cL_law 749 = .ok (.iadd, 1) := by decide +kernel
theorem dL_law_750 : decode cL_law 750 = .ok (.iaload, 1) := by decide +kernel
theorem dL_law_751 : decode cL_law 751 = .ok (.aload_n 0, 1) := by decide +kernel
theorem dL_law_752 : decode cL_law 752 = .ok (.iload_n 3, 1) := by decide +kernel
theorem dL_law_753 : decode cL_law 753 = .ok (.iconst 4, 1) := by decide +kernel
theorem dL_law_754 : decode cL_law 754 = .ok (.iadd, 1) := by decide +kernel
theorem dL_law_755 : decode cL_law 755 = .ok (.iaload, 1) := by decide +kernel
theorem dL_law_756 : decode cL_law 756 = .ok (.aload_n 0, 1) := by decide +kernel
theorem dL_law_757 : decode cL_law 757 = .ok (.iload_n 3, 1) := by decide +kernel
theorem dL_law_758 : decode cL_law 758 = .ok (.iconst 5, 1) := by decide +kernel
theorem dL_law_759 : decode cL_law 759 = .ok (.iadd, 1) := by decide +kernel
theorem dL_law_760 : decode cL_law 760 = .ok (.iaload, 1) := by decide +kernel
theorem dL_law_761 : decode cL_law 761 = .ok (.aload_n 0, 1) := by decide +kernel
theorem dL_law_762 : decode cL_law 762 = .ok (.iload_n 3, 1) := by decide +kernel
theorem dL_law_763 : decode cL_law 763 = .ok (.bipush 6, 2) := by decide +kernel
theorem dL_law_765 : decode cL_law 765 = .ok (.iadd, 1) := by decide +kernel
theorem dL_law_766 : decode cL_law 766 = .ok (.iaload, 1) := by decide +kernel
theorem dL_law_767 : decode cL_law 767 = .ok (.aload_n 0, 1) := by decide +kernel
theorem dL_law_768 : decode cL_law 768 = .ok (.iload_n 3, 1) := by decide +kernel
theorem dL_law_769 : decode cL_law 769 = .ok (.bipush 7, 2) := by decide +kernel
theorem dL_law_771 : decode cL_law 771 = .ok (.iadd, 1) := by decide +kernel
theorem dL_law_772 : decode cL_law 772 = .ok (.iaload, 1) := by decide +kernel
theorem dL_law_773 : decode cL_law 773 = .ok (.invokevirtual 88, 3) := by decide +kernel
theorem dL_law_776 : decode cL_law 776 = .ok (.if_icmp .eq 895, 3) := by decide +kernel
theorem dL_law_779 : decode cL_law 779 = .ok (.iconst 0, 1) := by decide +kernel
theorem dL_law_780 : decode cL_law 780 = .ok (.ireturn, 1) := by decide +kernel
theorem dL_law_781 : decode cL_law 781 = .ok (.aload_n 1, 1) := by decide +kernel
theorem dL_law_782 : decode cL_law 782 = .ok (.aload_n 0, 1) := by decide +kernel
theorem dL_law_783 : decode cL_law 783 = .ok (.iload_n 3, 1) := by decide +kernel
theorem dL_law_784 : decode cL_law 784 = .ok (.iconst 1, 1) := by decide +kernel
theorem dL_law_785 : decode cL_law 785 = .ok (.iadd, 1) := by decide +kernel
theorem dL_law_786 : decode cL_law 786 = .ok (.iaload, 1) := by decide +kernel
theorem dL_law_787 : decode cL_law 787 = .ok (.aload_n 0, 1) := by decide +kernel
theorem dL_law_788 : decode cL_law 788 = .ok (.iload_n 3, 1) := by decide +kernel
theorem dL_law_789 : decode cL_law 789 = .ok (.iconst 2, 1) := by decide +kernel
theorem dL_law_790 : decode cL_law 790 = .ok (.iadd, 1) := by decide +kernel
theorem dL_law_791 : decode cL_law 791 = .ok (.iaload, 1) := by decide +kernel
theorem dL_law_792 : decode cL_law 792 = .ok (.aload_n 0, 1) := by decide +kernel
theorem dL_law_793 : decode cL_law 793 = .ok (.iload_n 3, 1) := by decide +kernel
theorem dL_law_794 : decode cL_law 794 = .ok (.iconst 3, 1) := by decide +kernel
theorem dL_law_795 : decode cL_law 795 = .ok (.iadd, 1) := by decide +kernel
theorem dL_law_796 : decode cL_law 796 = .ok (.iaload, 1) := by decide +kernel
theorem dL_law_797 : decode cL_law 797 = .ok (.aload_n 0, 1) := by decide +kernel
theorem dL_law_798 : decode cL_law 798 = .ok (.iload_n 3, 1) := by decide +kernel
theorem dL_law_799 : decode cL_law 799 = .ok (.iconst 4, 1) := by decide +kernel
theorem dL_law_800 : decode cL_law 800 = .ok (.iadd, 1) := by decide +kernel
theorem dL_law_801 : decode cL_law 801 = .ok (.iaload, 1) := by decide +kernel
theorem dL_law_802 : decode cL_law 802 = .ok (.invokevirtual 89, 3) := by decide +kernel
theorem dL_law_805 : decode cL_law 805 = .ok (.aload_n 2, 1) := by decide +kernel
theorem dL_law_806 : decode cL_law 806 = .ok (.aload_n 0, 1) := by decide +kernel
theorem dL_law_807 : decode cL_law 807 = .ok (.iload_n 3, 1) := by decide +kernel
theorem dL_law_808 : decode cL_law 808 = .ok (.iconst 1, 1) := by decide +kernel
theorem dL_law_809 : decode cL_law 809 = .ok (.iadd, 1) := by decide +kernel
theorem dL_law_810 : decode cL_law 810 = .ok (.iaload, 1) := by decide +kernel
theorem dL_law_811 : decode cL_law 811 = .ok (.aload_n 0, 1) := by decide +kernel
theorem dL_law_812 : decode cL_law 812 = .ok (.iload_n 3, 1) := by decide +kernel
theorem dL_law_813 : decode cL_law 813 = .ok (.iconst 2, 1) := by decide +kernel
theorem dL_law_814 : decode cL_law 814 = .ok (.iadd, 1) := by decide +kernel
theorem dL_law_815 : decode cL_law 815 = .ok (.iaload, 1) := by decide +kernel
theorem dL_law_816 : decode cL_law 816 = .ok (.aload_n 0, 1) := by decide +kernel
theorem dL_law_817 : decode cL_law 817 = .ok (.iload_n 3, 1) := by decide +kernel
theorem dL_law_818 : decode cL_law 818 = .ok (.iconst 3, 1) := by decide +kernel
theorem dL_law_819 : decode cL_law 819 = .ok (.iadd, 1) := by decide +kernel
theorem dL_law_820 : decode cL_law 820 = .ok (.iaload, 1) := by decide +kernel
theorem dL_law_821 : decode cL_law 821 = .ok (.aload_n 0, 1) := by decide +kernel
theorem dL_law_822 : decode cL_law 822 = .ok (.iload_n 3, 1) := by decide +kernel
theorem dL_law_823 : decode cL_law 823 = .ok (.iconst 4, 1) := by decide +kernel
theorem dL_law_824 : decode cL_law 824 = .ok (.iadd, 1) := by decide +kernel
theorem dL_law_825 : decode cL_law 825 = .ok (.iaload, 1) := by decide +kernel
theorem dL_law_826 : decode cL_law 826 = .ok (.invokevirtual 92, 3) := by decide +kernel
theorem dL_law_829 : decode cL_law 829 = .ok (.if_icmp .eq 842, 3) := by decide +kernel
theorem dL_law_832 : decode cL_law 832 = .ok (.iconst 0, 1) := by decide +kernel
theorem dL_law_833 : decode cL_law 833 = .ok (.ireturn, 1) := by decide +kernel
theorem dL_law_834 : decode cL_law 834 = .ok (.aload_n 1, 1) := by decide +kernel
theorem dL_law_835 : decode cL_law 835 = .ok (.aload_n 0, 1) := by decide +kernel
theorem dL_law_836 : decode cL_law 836 = .ok (.iload_n 3, 1) := by decide +kernel
theorem dL_law_837 : decode cL_law 837 = .ok (.iconst 1, 1) := by decide +kernel
theorem dL_law_838 : decode cL_law 838 = .ok (.iadd, 1) := by decide +kernel
theorem dL_law_839 : decode cL_law 839 = .ok (.iaload, 1) := by decide +kernel
theorem dL_law_840 : decode cL_law 840 = .ok (.aload_n 0, 1) := by decide +kernel
theorem dL_law_841 : decode cL_law 841 = .ok (.iload_n 3, 1) := by decide +kernel
theorem dL_law_842 : decode cL_law 842 = .ok (.iconst 2, 1) := by decide +kernel
theorem dL_law_843 : decode cL_law 843 = .ok (.iadd, 1) := by decide +kernel
theorem dL_law_844 : decode cL_law 844 = .ok (.iaload, 1) := by decide +kernel
theorem dL_law_845 : decode cL_law 845 = .ok (.invokevirtual 93, 3) := by decide +kernel
theorem dL_law_848 : decode cL_law 848 = .ok (.aload_n 2, 1) := by decide +kernel
theorem dL_law_849 : decode cL_law 849 = .ok (.aload_n 0, 1) := by decide +kernel
theorem dL_law_850 : decode cL_law 850 = .ok (.iload_n 3, 1) := by decide +kernel
theorem dL_law_851 : decode cL_law 851 = .ok (.iconst 1, 1) := by decide +kernel
theorem dL_law_852 : decode cL_law 852 = .ok (.iadd, 1) := by decide +kernel
theorem dL_law_853 : decode cL_law 853 = .ok (.iaload, 1) := by decide +kernel
theorem dL_law_854 : decode cL_law 854 = .ok (.aload_n 0, 1) := by decide +kernel
theorem dL_law_855 : decode cL_law 855 = .ok (.iload_n 3, 1) := by decide +kernel
theorem dL_law_856 : decode cL_law 856 = .ok (.iconst 2, 1) := by decide +kernel
theorem dL_law_857 : decode cL_law 857 = .ok (.iadd, 1) := by decide +kernel
theorem dL_law_858 : decode cL_law 858 = .ok (.iaload, 1) := by decide +kernel
theorem dL_law_859 : decode cL_law 859 = .ok (.invokevirtual 96, 3) := by decide +kernel
theorem dL_law_862 : decode cL_law 862 = .ok (.if_icmp .eq 809, 3) := by decide +kernel
theorem dL_law_865 : decode cL_law 865 = .ok (.iconst 0, 1) := by decide +kernel
theorem dL_law_866 : decode cL_law 866 = .ok (.ireturn, 1) := by decide +kernel
theorem dL_law_867 : decode cL_law 867 = .ok (.aload_n 1, 1) := by decide +kernel
theorem dL_law_868 : decode cL_law 868 = .ok (.aload_n 0, 1) := by decide +kernel
theorem dL_law_869 : decode cL_law 869 = .ok (.iload_n 3, 1) := by decide +kernel
theorem dL_law_870 : decode cL_law 870 = .ok (.iconst 1, 1) := by decide +kernel
theorem dL_law_871 : decode cL_law 871 = .ok (.iadd, 1) := by decide +kernel
theorem dL_law_872 : decode cL_law 872 = .ok (.iaload, 1) := by decide +kernel
theorem dL_law_873 : decode cL_law 873 = .ok (.aload_n 0, 1) := by decide +kernel
theorem dL_law_874 : decode cL_law 874 = .ok (.iload_n 3, 1) := by decide +kernel
theorem dL_law_875 : decode cL_law 875 = .ok (.iconst 2, 1) := by decide +kernel
theorem dL_law_876 : decode cL_law 876 = .ok (.iadd, 1) := by decide +kernel
theorem dL_law_877 : decode cL_law 877 = .ok (.iaload, 1) := by decide +kernel
theorem dL_law_878 : decode cL_law 878 = .ok (.aload_n 0, 1) := by decide +kernel
theorem dL_law_879 : decode cL_law 879 = .ok (.iload_n 3, 1) := by decide +kernel
theorem dL_law_880 : decode cL_law 880 = .ok (.iconst 3, 1) := by decide +kernel
theorem dL_law_881 : decode cL_law 881 = .ok (.iadd, 1) := by decide +kernel
theorem dL_law_882 : decode cL_law 882 = .ok (.iaload, 1) := by decide +kernel
theorem dL_law_883 : decode cL_law 883 = .ok (.aload_n 0, 1) := by decide +kernel
theorem dL_law_884 : decode cL_law 884 = .ok (.iload_n 3, 1) := by decide +kernel
theorem dL_law_885 : decode cL_law 885 = .ok (.iconst 4, 1) := by decide +kernel
theorem dL_law_886 : decode cL_law 886 = .ok (.iadd, 1) := by decide +kernel
theorem dL_law_887 : decode cL_law 887 = .ok (.iaload, 1) := by decide +kernel
theorem dL_law_888 : decode cL_law 888 = .ok (.aload_n 0, 1) := by decide +kernel
theorem dL_law_889 : decode cL_law 889 = .ok (.iload_n 3, 1) := by decide +kernel
theorem dL_law_890 : decode cL_law 890 = .ok (.iconst 5, 1) := by decide +kernel
theorem dL_law_891 : decode cL_law 891 = .ok (.iadd, 1) := by decide +kernel
theorem dL_law_892 : decode cL_law 892 = .ok (.iaload, 1) := by decide +kernel
theorem dL_law_893 : decode cL_law 893 = .ok (.invokevirtual 97, 3) := by decide +kernel
theorem dL_law_896 : decode cL_law 896 = .ok (.aload_n 2, 1) := by decide +kernel
theorem dL_law_897 : decode cL_law 897 = .ok (.aload_n 0, 1) := by decide +kernel
theorem dL_law_898 : decode cL_law 898 = .ok (.iload_n 3, 1) := by decide +kernel
theorem dL_law_899 : decode cL_law 899 = .ok (.iconst 1, 1) := by decide +kernel
theorem dL_law_900 : decode cL_law 900 = .ok (.iadd, 1) := by decide +kernel
theorem dL_law_901 : decode cL_law 901 = .ok (.iaload, 1) := by decide +kernel
theorem dL_law_902 : decode cL_law 902 = .ok (.aload_n 0, 1) := by decide +kernel
theorem dL_law_903 : decode cL_law 903 = .ok (.iload_n 3, 1) := by decide +kernel
theorem dL_law_904 : decode cL_law 904 = .ok (.iconst 2, 1) := by decide +kernel
theorem dL_law_905 : decode cL_law 905 = .ok (.iadd, 1) := by decide +kernel
theorem dL_law_906 : decode cL_law 906 = .ok (.iaload, 1) := by decide +kernel
theorem dL_law_907 : decode cL_law 907 = .ok (.aload_n 0, 1) := by decide +kernel
theorem dL_law_908 : decode cL_law 908 = .ok (.iload_n 3, 1) := by decide +kernel
theorem dL_law_909 : decode cL_law 909 = .ok (.iconst 3, 1) := by decide +kernel
theorem dL_law_910 : decode cL_law 910 = .ok (.iadd, 1) := by decide +kernel
theorem dL_law_911 : decode cL_law 911 = .ok (.iaload, 1) := by decide +kernel
theorem dL_law_912 : decode cL_law 912 = .ok (.aload_n 0, 1) := by decide +kernel
theorem dL_law_913 : decode cL_law 913 = .ok (.iload_n 3, 1) := by decide +kernel
theorem dL_law_914 : decode cL_law 914 = .ok (.iconst 4, 1) := by decide +kernel
theorem dL_law_915 : decode cL_law 915 = .ok (.iadd, 1) := by decide +kernel
theorem dL_law_916 : decode cL_law 916 = .ok (.iaload, 1) := by decide +kernel
theorem dL_law_917 : decode cL_law 917 = .ok (.aload_n 0, 1) := by decide +kernel
theorem dL_law_918 : decode cL_law 918 = .ok (.iload_n 3, 1) := by decide +kernel
theorem dL_law_919 : decode cL_law 919 = .ok (.iconst 5, 1) := by decide +kernel
theorem dL_law_920 : decode cL_law 920 = .ok (.iadd, 1) := by decide +kernel
theorem dL_law_921 : decode cL_law 921 = .ok (.iaload, 1) := by decide +kernel
theorem dL_law_922 : decode cL_law 922 = .ok (.invokevirtual 101, 3) := by decide +kernel
theorem dL_law_925 : decode cL_law 925 = .ok (.lcmp, 1) := by decide +kernel
theorem dL_law_926 : decode cL_law 926 = .ok (.ifCond .eq 745, 3) := by decide +kernel
theorem dL_law_929 : decode cL_law 929 = .ok (.iconst 0, 1) := by decide +kernel
theorem dL_law_930 : decode cL_law 930 = .ok (.ireturn, 1) := by decide +kernel
theorem dL_law_931 : decode cL_law 931 = .ok (.aload_n 1, 1) := by decide +kernel
theorem dL_law_932 : decode cL_law 932 = .ok (.aload_n 0, 1) := by decide +kernel
theorem dL_law_933 : decode cL_law 933 = .ok (.iload_n 3, 1) := by decide +kernel
theorem dL_law_934 : decode cL_law 934 = .ok (.iconst 1, 1) := by decide +kernel
theorem dL_law_935 : decode cL_law 935 = .ok (.iadd, 1) := by decide +kernel
theorem dL_law_936 : decode cL_law 936 = .ok (.iaload, 1) := by decide +kernel
theorem dL_law_937 : decode cL_law 937 = .ok (.invokevirtual 102, 3) := by decide +kernel
theorem dL_law_940 : decode cL_law 940 = .ok (.aload_n 2, 1) := by decide +kernel
theorem dL_law_941 : decode cL_law 941 = .ok (.aload_n 0, 1) := by decide +kernel
theorem dL_law_942 : decode cL_law 942 = .ok (.iload_n 3, 1) := by decide +kernel
theorem dL_law_943 : decode cL_law 943 = .ok (.iconst 1, 1) := by decide +kernel
theorem dL_law_944 : decode cL_law 944 = .ok (.iadd, 1) := by decide +kernel
theorem dL_law_945 : decode cL_law 945 = .ok (.iaload, 1) := by decide +kernel
theorem dL_law_946 : decode cL_law 946 = .ok (.invokevirtual 105, 3) := by decide +kernel
theorem dL_law_949 : decode cL_law 949 = .ok (.if_icmp .eq 722, 3) := by decide +kernel
theorem dL_law_952 : decode cL_law 952 = .ok (.iconst 0, 1) := by decide +kernel
theorem dL_law_953 : decode cL_law 953 = .ok (.ireturn, 1) := by decide +kernel
theorem dL_law_954 : decode cL_law 954 = .ok (.aload_n 1, 1) := by decide +kernel
theorem dL_law_955 : decode cL_law 955 = .ok (.aload_n 0, 1) := by decide +kernel
theorem dL_law_956 : decode cL_law 956 = .ok (.iload_n 3, 1) := by decide +kernel
theorem dL_law_957 : decode cL_law 957 = .ok (.iconst 1, 1) := by decide +kernel
theorem dL_law_958 : decode cL_law 958 = .ok (.iadd, 1) := by decide +kernel
theorem dL_law_959 : decode cL_law 959 = .ok (.iaload, 1) := by decide +kernel
theorem dL_law_960 : decode cL_law 960 = .ok (.aload_n 0, 1) := by decide +kernel
theorem dL_law_961 : decode cL_law 961 = .ok (.iload_n 3, 1) := by decide +kernel
theorem dL_law_962 : decode cL_law 962 = .ok (.iconst 2, 1) := by decide +kernel
theorem dL_law_963 : decode cL_law 963 = .ok (.iadd, 1) := by decide +kernel
theorem dL_law_964 : decode cL_law 964 = .ok (.iaload, 1) := by decide +kernel
theorem dL_law_965 : decode cL_law 965 = .ok (.aload_n 0, 1) := by decide +kernel
theorem dL_law_966 : decode cL_law 966 = .ok (.iload_n 3, 1) := by decide +kernel
theorem dL_law_967 : decode cL_law 967 = .ok (.iconst 3, 1) := by decide +kernel
theorem dL_law_968 : decode cL_law 968 = .ok (.iadd, 1) := by decide +kernel
theorem dL_law_969 : decode cL_law 969 = .ok (.iaload, 1) := by decide +kernel
theorem dL_law_970 : decode cL_law 970 = .ok (.invokevirtual 106, 3) := by decide +kernel
theorem dL_law_973 : decode cL_law 973 = .ok (.aload_n 2, 1) := by decide +kernel
theorem dL_law_974 : decode cL_law 974 = .ok (.aload_n 0, 1) := by decide +kernel
theorem dL_law_975 : decode cL_law 975 = .ok (.iload_n 3, 1) := by decide +kernel
theorem dL_law_976 : decode cL_law 976 = .ok (.iconst 1, 1) := by decide +kernel
theorem dL_law_977 : decode cL_law 977 = .ok (.iadd, 1) := by decide +kernel
theorem dL_law_978 : decode cL_law 978 = .ok (.iaload, 1) := by decide +kernel
theorem dL_law_979 : decode cL_law 979 = .ok (.aload_n 0, 1) := by decide +kernel
theorem dL_law_980 : decode cL_law 980 = .ok (.iload_n 3, 1) := by decide +kernel
theorem dL_law_981 : decode cL_law 981 = .ok (.iconst 2, 1) := by decide +kernel
theorem dL_law_982 : decode cL_law 982 = .ok (.iadd, 1) := by decide +kernel
theorem dL_law_983 : decode cL_law 983 = .ok (.iaload, 1) := by decide +kernel
theorem dL_law_984 : decode cL_law 984 = .ok (.aload_n 0, 1) := by decide +kernel
theorem dL_law_985 : decode cL_law 985 = .ok (.iload_n 3, 1) := by decide +kernel
theorem dL_law_986 : decode cL_law 986 = .ok (.iconst 3, 1) := by decide +kernel
theorem dL_law_987 : decode cL_law 987 = .ok (.iadd, 1) := by decide +kernel
theorem dL_law_988 : decode cL_law 988 = .ok (.iaload, 1) := by decide +kernel
theorem dL_law_989 : decode cL_law 989 = .ok (.invokevirtual 110, 3) := by decide +kernel
theorem dL_law_992 : decode cL_law 992 = .ok (.if_icmp .eq 679, 3) := by decide +kernel
theorem dL_law_995 : decode cL_law 995 = .ok (.iconst 0, 1) := by decide +kernel
theorem dL_law_996 : decode cL_law 996 = .ok (.ireturn, 1) := by decide +kernel
theorem dL_law_997 : decode cL_law 997 = .ok (.aload_n 1, 1) := by decide +kernel
theorem dL_law_998 : decode cL_law 998 = .ok (.aload_n 0, 1) := by decide +kernel
theorem dL_law_999 : decode cL_law 999 = .ok (.iload_n 3, 1) := by decide +kernel
theorem dL_law_1000 : decode cL_law 1000 = .ok (.iconst 1, 1) := by decide +kernel
theorem dL_law_1001 : decode cL_law 1001 = .ok (.iadd, 1) := by decide +kernel
theorem dL_law_1002 : decode cL_law 1002 = .ok (.iaload, 1) := by decide +kernel
theorem dL_law_1003 : decode cL_law 1003 = .ok (.aload_n 0, 1) := by decide +kernel
theorem dL_law_1004 : decode cL_law 1004 = .ok (.iload_n 3, 1) := by decide +kernel
theorem dL_law_1005 : decode cL_law 1005 = .ok (.iconst 2, 1) := by decide +kernel
theorem dL_law_1006 : decode cL_law 1006 = .ok (.iadd, 1) := by decide +kernel
theorem dL_law_1007 : decode cL_law 1007 = .ok (.iaload, 1) := by decide +kernel
theorem dL_law_1008 : decode cL_law 1008 = .ok (.aload_n 0, 1) := by decide +kernel
theorem dL_law_1009 : decode cL_law 1009 = .ok (.iload_n 3, 1) := by decide +kernel
theorem dL_law_1010 : decode cL_law 1010 = .ok (.iconst 3, 1) := by decide +kernel
theorem dL_law_1011 : decode cL_law 1011 = .ok (.iadd, 1) := by decide +kernel
theorem dL_law_1012 : decode cL_law 1012 = .ok (.iaload, 1) := by decide +kernel
theorem dL_law_1013 : decode cL_law 1013 = .ok (.aload_n 0, 1) := by decide +kernel
theorem dL_law_1014 : decode cL_law 1014 = .ok (.iload_n 3, 1) := by decide +kernel
theorem dL_law_1015 : decode cL_law 1015 = .ok (.iconst 4, 1) := by decide +kernel
theorem dL_law_1016 : decode cL_law 1016 = .ok (.iadd, 1) := by decide +kernel
theorem dL_law_1017 : decode cL_law 1017 = .ok (.iaload, 1) := by decide +kernel
theorem dL_law_1018 : decode cL_law 1018 = .ok (.aload_n 0, 1) := by decide +kernel
theorem dL_law_1019 : decode cL_law 1019 = .ok (.iload_n 3, 1) := by decide +kernel
theorem dL_law_1020 : decode cL_law 1020 = .ok (.iconst 5, 1) := by decide +kernel
theorem dL_law_1021 : decode cL_law 1021 = .ok (.iadd, 1) := by decide +kernel
theorem dL_law_1022 : decode cL_law 1022 = .ok (.iaload, 1) := by decide +kernel
theorem dL_law_1023 : decode cL_law 1023 = .ok (.aload_n 0, 1) := by decide +kernel
theorem dL_law_1024 : decode cL_law 1024 = .ok (.iload_n 3, 1) := by decide +kernel
theorem dL_law_1025 : decode cL_law 1025 = .ok (.bipush 6, 2) := by decide +kernel
theorem dL_law_1027 : decode cL_law 1027 = .ok (.iadd, 1) := by decide +kernel
theorem dL_law_1028 : decode cL_law 1028 = .ok (.iaload, 1) := by decide +kernel
theorem dL_law_1029 : decode cL_law 1029 = .ok (.invokevirtual 111, 3) := by decide +kernel
theorem dL_law_1032 : decode cL_law 1032 = .ok (.aload_n 2, 1) := by decide +kernel
theorem dL_law_1033 : decode cL_law 1033 = .ok (.aload_n 0, 1) := by decide +kernel
theorem dL_law_1034 : decode cL_law 1034 = .ok (.iload_n 3, 1) := by decide +kernel
theorem dL_law_1035 : decode cL_law 1035 = .ok (.iconst 1, 1) := by decide +kernel
theorem dL_law_1036 : decode cL_law 1036 = .ok (.iadd, 1) := by decide +kernel
theorem dL_law_1037 : decode cL_law 1037 = .ok (.iaload, 1) := by decide +kernel
theorem dL_law_1038 : decode cL_law 1038 = .ok (.aload_n 0, 1) := by decide +kernel
theorem dL_law_1039 : decode cL_law 1039 = .ok (.iload_n 3, 1) := by decide +kernel
theorem dL_law_1040 : decode cL_law 1040 = .ok (.iconst 2, 1) := by decide +kernel
theorem dL_law_1041 : decode cL_law 1041 = .ok (.iadd, 1) := by decide +kernel
theorem dL_law_1042 : decode cL_law 1042 = .ok (.iaload, 1) := by decide +kernel
theorem dL_law_1043 : decode cL_law 1043 = .ok (.aload_n 0, 1) := by decide +kernel
theorem dL_law_1044 : decode cL_law 1044 = .ok (.iload_n 3, 1) := by decide +kernel
theorem dL_law_1045 : decode cL_law 1045 = .ok (.iconst 3, 1) := by decide +kernel
theorem dL_law_1046 : decode cL_law 1046 = .ok (.iadd, 1) := by decide +kernel
theorem dL_law_1047 : decode cL_law 1047 = .ok (.iaload, 1) := by decide +kernel
theorem dL_law_1048 : decode cL_law 1048 = .ok (.aload_n 0, 1) := by decide +kernel
theorem dL_law_1049 : decode cL_law 1049 = .ok (.iload_n 3, 1) := by decide +kernel
theorem dL_law_1050 : decode cL_law 1050 = .ok (.iconst 4, 1) := by decide +kernel
theorem dL_law_1051 : decode cL_law 1051 = .ok (.iadd, 1) := by decide +kernel
theorem dL_law_1052 : decode cL_law 1052 = .ok (.iaload, 1) := by decide +kernel
theorem dL_law_1053 : decode cL_law 1053 = .ok (.aload_n 0, 1) := by decide +kernel
theorem dL_law_1054 : decode cL_law 1054 = .ok (.iload_n 3, 1) := by decide +kernel
theorem dL_law_1055 : decode cL_law 1055 = .ok (.iconst 5, 1) := by decide +kernel
theorem dL_law_1056 : decode cL_law 1056 = .ok (.iadd, 1) := by decide +kernel
theorem dL_law_1057 : decode cL_law 1057 = .ok (.iaload, 1) := by decide +kernel
theorem dL_law_1058 : decode cL_law 1058 = .ok (.aload_n 0, 1) := by decide +kernel
theorem dL_law_1059 : decode cL_law 1059 = .ok (.iload_n 3, 1) := by decide +kernel
theorem dL_law_1060 : decode cL_law 1060 = .ok (.bipush 6, 2) := by decide +kernel
theorem dL_law_1062 : decode cL_law 1062 = .ok (.iadd, 1) := by decide +kernel
theorem dL_law_1063 : decode cL_law 1063 = .ok (.iaload, 1) := by decide +kernel
theorem dL_law_1064 : decode cL_law 1064 = .ok (.invokevirtual 115, 3) := by decide +kernel
theorem dL_law_1067 : decode cL_law 1067 = .ok (.if_icmp .eq 604, 3) := by decide +kernel
theorem dL_law_1070 : decode cL_law 1070 = .ok (.iconst 0, 1) := by decide +kernel
theorem dL_law_1071 : decode cL_law 1071 = .ok (.ireturn, 1) := by decide +kernel
theorem dL_law_1072 : decode cL_law 1072 = .ok (.aload_n 1, 1) := by decide +kernel
theorem dL_law_1073 : decode cL_law 1073 = .ok (.aload_n 0, 1) := by decide +kernel
theorem dL_law_1074 : decode cL_law 1074 = .ok (.iload_n 3, 1) := by decide +kernel
theorem dL_law_1075 : decode cL_law 1075 = .ok (.iconst 1, 1) := by decide +kernel
theorem dL_law_1076 : decode cL_law 1076 = .ok (.iadd, 1) := by decide +kernel
theorem dL_law_1077 : decode cL_law 1077 = .ok (.iaload, 1) := by decide +kernel
theorem dL_law_1078 : decode cL_law 1078 = .ok (.invokevirtual 116, 3) := by decide +kernel
theorem dL_law_1081 : decode cL_law 1081 = .ok (.aload_n 2, 1) := by decide +kernel
theorem dL_law_1082 : decode cL_law 1082 = .ok (.aload_n 0, 1) := by decide +kernel
theorem dL_law_1083 : decode cL_law 1083 = .ok (.iload_n 3, 1) := by decide +kernel
theorem dL_law_1084 : decode cL_law 1084 = .ok (.iconst 1, 1) := by decide +kernel
theorem dL_law_1085 : decode cL_law 1085 = .ok (.iadd, 1) := by decide +kernel
theorem dL_law_1086 : decode cL_law 1086 = .ok (.iaload, 1) := by decide +kernel
theorem dL_law_1087 : decode cL_law 1087 = .ok (.invokevirtual 119, 3) := by decide +kernel
theorem dL_law_1090 : decode cL_law 1090 = .ok (.if_icmp .eq 581, 3) := by decide +kernel
theorem dL_law_1093 : decode cL_law 1093 = .ok (.iconst 0, 1) := by decide +kernel
theorem dL_law_1094 : decode cL_law 1094 = .ok (.ireturn, 1) := by decide +kernel
theorem dL_law_1095 : decode cL_law 1095 = .ok (.aload_n 1, 1) := by decide +kernel
theorem dL_law_1096 : decode cL_law 1096 = .ok (.aload_n 0, 1) := by decide +kernel
theorem dL_law_1097 : decode cL_law 1097 = .ok (.iload_n 3, 1) := by decide +kernel
theorem dL_law_1098 : decode cL_law 1098 = .ok (.iconst 1, 1) := by decide +kernel
theorem dL_law_1099 : decode cL_law 1099 = .ok (.iadd, 1) := by decide +kernel
theorem dL_law_1100 : decode cL_law 1100 = .ok (.iaload, 1) := by decide +kernel
theorem dL_law_1101 : decode cL_law 1101 = .ok (.aload_n 0, 1) := by decide +kernel
theorem dL_law_1102 : decode cL_law 1102 = .ok (.iload_n 3, 1) := by decide +kernel
theorem dL_law_1103 : decode cL_law 1103 = .ok (.iconst 2, 1) := by decide +kernel
theorem dL_law_1104 : decode cL_law 1104 = .ok (.iadd, 1) := by decide +kernel
theorem dL_law_1105 : decode cL_law 1105 = .ok (.iaload, 1) := by decide +kernel
theorem dL_law_1106 : decode cL_law 1106 = .ok (.aload_n 0, 1) := by decide +kernel
theorem dL_law_1107 : decode cL_law 1107 = .ok (.iload_n 3, 1) := by decide +kernel
theorem dL_law_1108 : decode cL_law 1108 = .ok (.iconst 3, 1) := by decide +kernel
theorem dL_law_1109 : decode cL_law 1109 = .ok (.iadd, 1) := by decide +kernel
theorem dL_law_1110 : decode cL_law 1110 = .ok (.iaload, 1) := by decide +kernel
theorem dL_law_1111 : decode cL_law 1111 = .ok (.aload_n 0, 1) := by decide +kernel
theorem dL_law_1112 : decode cL_law 1112 = .ok (.iload_n 3, 1) := by decide +kernel
theorem dL_law_1113 : decode cL_law 1113 = .ok (.iconst 4, 1) := by decide +kernel
theorem dL_law_1114 : decode cL_law 1114 = .ok (.iadd, 1) := by decide +kernel
theorem dL_law_1115 : decode cL_law 1115 = .ok (.iaload, 1) := by decide +kernel
theorem dL_law_1116 : decode cL_law 1116 = .ok (.invokevirtual 120, 3) := by decide +kernel
theorem dL_law_1119 : decode cL_law 1119 = .ok (.aload_n 2, 1) := by decide +kernel
theorem dL_law_1120 : decode cL_law 1120 = .ok (.aload_n 0, 1) := by decide +kernel
theorem dL_law_1121 : decode cL_law 1121 = .ok (.iload_n 3, 1) := by decide +kernel
theorem dL_law_1122 : decode cL_law 1122 = .ok (.iconst 1, 1) := by decide +kernel
theorem dL_law_1123 : decode cL_law 1123 = .ok (.iadd, 1) := by decide +kernel
theorem dL_law_1124 : decode cL_law 1124 = .ok (.iaload, 1) := by decide +kernel
theorem dL_law_1125 : decode cL_law 1125 = .ok (.aload_n 0, 1) := by decide +kernel
theorem dL_law_1126 : decode cL_law 1126 = .ok (.iload_n 3, 1) := by decide +kernel
theorem dL_law_1127 : decode cL_law 1127 = .ok (.iconst 2, 1) := by decide +kernel
theorem dL_law_1128 : decode cL_law 1128 = .ok (.iadd, 1) := by decide +kernel
theorem dL_law_1129 : decode cL_law 1129 = .ok (.iaload, 1) := by decide +kernel
theorem dL_law_1130 : decode cL_law 1130 = .ok (.aload_n 0, 1) := by decide +kernel
theorem dL_law_1131 : decode cL_law 1131 = .ok (.iload_n 3, 1) := by decide +kernel
theorem dL_law_1132 : decode cL_law 1132 = .ok (.iconst 3, 1) := by decide +kernel
theorem dL_law_1133 : decode cL_law 1133 = .ok (.iadd, 1) := by decide +kernel
theorem dL_law_1134 : decode cL_law 1134 = .ok (.iaload, 1) := by decide +kernel
theorem dL_law_1135 : decode cL_law 1135 = .ok (.aload_n 0, 1) := by decide +kernel
theorem dL_law_1136 : decode cL_law 1136 = .ok (.iload_n 3, 1) := by decide +kernel
theorem dL_law_1137 : decode cL_law 1137 = .ok (.iconst 4, 1) := by decide +kernel
theorem dL_law_1138 : decode cL_law 1138 = .ok (.iadd, 1) := by decide +kernel
theorem dL_law_1139 : decode cL_law 1139 = .ok (.iaload, 1) := by decide +kernel
theorem dL_law_1140 : decode cL_law 1140 = .ok (.invokevirtual 123, 3) := by decide +kernel
theorem dL_law_1143 : decode cL_law 1143 = .ok (.if_icmp .eq 528, 3) := by decide +kernel
theorem dL_law_1146 : decode cL_law 1146 = .ok (.iconst 0, 1) := by decide +kernel
theorem dL_law_1147 : decode cL_law 1147 = .ok (.ireturn, 1) := by decide +kernel
theorem dL_law_1148 : decode cL_law 1148 = .ok (.aload_n 1, 1) := by decide +kernel
theorem dL_law_1149 : decode cL_law 1149 = .ok (.aload_n 0, 1) := by decide +kernel
theorem dL_law_1150 : decode cL_law 1150 = .ok (.iload_n 3, 1) := by decide +kernel
theorem dL_law_1151 : decode cL_law 1151 = .ok (.iconst 1, 1) := by decide +kernel
theorem dL_law_1152 : decode cL_law 1152 = .ok (.iadd, 1) := by decide +kernel
theorem dL_law_1153 : decode cL_law 1153 = .ok (.iaload, 1) := by decide +kernel
theorem dL_law_1154 : decode cL_law 1154 = .ok (.aload_n 0, 1) := by decide +kernel
theorem dL_law_1155 : decode cL_law 1155 = .ok (.iload_n 3, 1) := by decide +kernel
theorem dL_law_1156 : decode cL_law 1156 = .ok (.iconst 2, 1) := by decide +kernel
theorem dL_law_1157 : decode cL_law 1157 = .ok (.iadd, 1) := by decide +kernel
theorem dL_law_1158 : decode cL_law 1158 = .ok (.iaload, 1) := by decide +kernel
theorem dL_law_1159 : decode cL_law 1159 = .ok (.aload_n 0, 1) := by decide +kernel
theorem dL_law_1160 : decode cL_law 1160 = .ok (.iload_n 3, 1) := by decide +kernel
theorem dL_law_1161 : decode cL_law 1161 = .ok (.iconst 3, 1) := by decide +kernel
theorem dL_law_1162 : decode cL_law 1162 = .ok (.iadd, 1) := by decide +kernel
theorem dL_law_1163 : decode cL_law 1163 = .ok (.iaload, 1) := by decide +kernel
theorem dL_law_1164 : decode cL_law 1164 = .ok (.aload_n 0, 1) := by decide +kernel
theorem dL_law_1165 : decode cL_law 1165 = .ok (.iload_n 3, 1) := by decide +kernel
theorem dL_law_1166 : decode cL_law 1166 = .ok (.iconst 4, 1) := by decide +kernel
theorem dL_law_1167 : decode cL_law 1167 = .ok (.iadd, 1) := by decide +kernel
theorem dL_law_1168 : decode cL_law 1168 = .ok (.iaload, 1) := by decide +kernel
theorem dL_law_1169 : decode cL_law 1169 = .ok (.invokevirtual 124, 3) := by decide +kernel
theorem dL_law_1172 : decode cL_law 1172 = .ok (.aload_n 2, 1) := by decide +kernel
theorem dL_law_1173 : decode cL_law 1173 = .ok (.aload_n 0, 1) := by decide +kernel
theorem dL_law_1174 : decode cL_law 1174 = .ok (.iload_n 3, 1) := by decide +kernel
theorem dL_law_1175 : decode cL_law 1175 = .ok (.iconst 1, 1) := by decide +kernel
theorem dL_law_1176 : decode cL_law 1176 = .ok (.iadd, 1) := by decide +kernel
theorem dL_law_1177 : decode cL_law 1177 = .ok (.iaload, 1) := by decide +kernel
theorem dL_law_1178 : decode cL_law 1178 = .ok (.aload_n 0, 1) := by decide +kernel
theorem dL_law_1179 : decode cL_law 1179 = .ok (.iload_n 3, 1) := by decide +kernel
theorem dL_law_1180 : decode cL_law 1180 = .ok (.iconst 2, 1) := by decide +kernel
theorem dL_law_1181 : decode cL_law 1181 = .ok (.iadd, 1) := by decide +kernel
theorem dL_law_1182 : decode cL_law 1182 = .ok (.iaload, 1) := by decide +kernel
theorem dL_law_1183 : decode cL_law 1183 = .ok (.aload_n 0, 1) := by decide +kernel
theorem dL_law_1184 : decode cL_law 1184 = .ok (.iload_n 3, 1) := by decide +kernel
theorem dL_law_1185 : decode cL_law 1185 = .ok (.iconst 3, 1) := by decide +kernel
theorem dL_law_1186 : decode cL_law 1186 = .ok (.iadd, 1) := by decide +kernel
theorem dL_law_1187 : decode cL_law 1187 = .ok (.iaload, 1) := by decide +kernel
theorem dL_law_1188 : decode cL_law 1188 = .ok (.aload_n 0, 1) := by decide +kernel
theorem dL_law_1189 : decode cL_law 1189 = .ok (.iload_n 3, 1) := by decide +kernel
theorem dL_law_1190 : decode cL_law 1190 = .ok (.iconst 4, 1) := by decide +kernel
theorem dL_law_1191 : decode cL_law 1191 = .ok (.iadd, 1) := by decide +kernel
theorem dL_law_1192 : decode cL_law 1192 = .ok (.iaload, 1) := by decide +kernel
theorem dL_law_1193 : decode cL_law 1193 = .ok (.invokevirtual 127, 3) := by decide +kernel
theorem dL_law_1196 : decode cL_law 1196 = .ok (.if_icmp .eq 475, 3) := by decide +kernel
theorem dL_law_1199 : decode cL_law 1199 = .ok (.iconst 0, 1) := by decide +kernel
theorem dL_law_1200 : decode cL_law 1200 = .ok (.ireturn, 1) := by decide +kernel
theorem dL_law_1201 : decode cL_law 1201 = .ok (.aload_n 1, 1) := by decide +kernel
theorem dL_law_1202 : decode cL_law 1202 = .ok (.aload_n 0, 1) := by decide +kernel
theorem dL_law_1203 : decode cL_law 1203 = .ok (.iload_n 3, 1) := by decide +kernel
theorem dL_law_1204 : decode cL_law 1204 = .ok (.iconst 1, 1) := by decide +kernel
theorem dL_law_1205 : decode cL_law 1205 = .ok (.iadd, 1) := by decide +kernel
theorem dL_law_1206 : decode cL_law 1206 = .ok (.iaload, 1) := by decide +kernel
theorem dL_law_1207 : decode cL_law 1207 = .ok (.aload_n 0, 1) := by decide +kernel
theorem dL_law_1208 : decode cL_law 1208 = .ok (.iload_n 3, 1) := by decide +kernel
theorem dL_law_1209 : decode cL_law 1209 = .ok (.iconst 2, 1) := by decide +kernel
theorem dL_law_1210 : decode cL_law 1210 = .ok (.iadd, 1) := by decide +kernel
theorem dL_law_1211 : decode cL_law 1211 = .ok (.iaload, 1) := by decide +kernel
theorem dL_law_1212 : decode cL_law 1212 = .ok (.aload_n 0, 1) := by decide +kernel
theorem dL_law_1213 : decode cL_law 1213 = .ok (.iload_n 3, 1) := by decide +kernel
theorem dL_law_1214 : decode cL_law 1214 = .ok (.iconst 3, 1) := by decide +kernel
theorem dL_law_1215 : decode cL_law 1215 = .ok (.iadd, 1) := by decide +kernel
theorem dL_law_1216 : decode cL_law 1216 = .ok (.iaload, 1) := by decide +kernel
theorem dL_law_1217 : decode cL_law 1217 = .ok (.aload_n 0, 1) := by decide +kernel
theorem dL_law_1218 : decode cL_law 1218 = .ok (.iload_n 3, 1) := by decide +kernel
theorem dL_law_1219 : decode cL_law 1219 = .ok (.iconst 4, 1) := by decide +kernel
theorem dL_law_1220 : decode cL_law 1220 = .ok (.iadd, 1) := by decide +kernel
theorem dL_law_1221 : decode cL_law 1221 = .ok (.iaload, 1) := by decide +kernel
theorem dL_law_1222 : decode cL_law 1222 = .ok (.invokevirtual 128, 3) := by decide +kernel
theorem dL_law_1225 : decode cL_law 1225 = .ok (.aload_n 2, 1) := by decide +kernel
theorem dL_law_1226 : decode cL_law 1226 = .ok (.aload_n 0, 1) := by decide +kernel
theorem dL_law_1227 : decode cL_law 1227 = .ok (.iload_n 3, 1) := by decide +kernel
theorem dL_law_1228 : decode cL_law 1228 = .ok (.iconst 1, 1) := by decide +kernel
theorem dL_law_1229 : decode cL_law 1229 = .ok (.iadd, 1) := by decide +kernel
theorem dL_law_1230 : decode cL_law 1230 = .ok (.iaload, 1) := by decide +kernel
theorem dL_law_1231 : decode cL_law 1231 = .ok (.aload_n 0, 1) := by decide +kernel
theorem dL_law_1232 : decode cL_law 1232 = .ok (.iload_n 3, 1) := by decide +kernel
theorem dL_law_1233 : decode cL_law 1233 = .ok (.iconst 2, 1) := by decide +kernel
theorem dL_law_1234 : decode cL_law 1234 = .ok (.iadd, 1) := by decide +kernel
theorem dL_law_1235 : decode cL_law 1235 = .ok (.iaload, 1) := by decide +kernel
theorem dL_law_1236 : decode cL_law 1236 = .ok (.aload_n 0, 1) := by decide +kernel
theorem dL_law_1237 : decode cL_law 1237 = .ok (.iload_n 3, 1) := by decide +kernel
theorem dL_law_1238 : decode cL_law 1238 = .ok (.iconst 3, 1) := by decide +kernel
theorem dL_law_1239 : decode cL_law 1239 = .ok (.iadd, 1) := by decide +kernel
theorem dL_law_1240 : decode cL_law 1240 = .ok (.iaload, 1) := by decide +kernel
theorem dL_law_1241 : decode cL_law 1241 = .ok (.aload_n 0, 1) := by decide +kernel
theorem dL_law_1242 : decode cL_law 1242 = .ok (.iload_n 3, 1) := by decide +kernel
theorem dL_law_1243 : decode cL_law 1243 = .ok (.iconst 4, 1) := by decide +kernel
theorem dL_law_1244 : decode cL_law 1244 = .ok (.iadd, 1) := by decide +kernel
theorem dL_law_1245 : decode cL_law 1245 = .ok (.iaload, 1) := by decide +kernel
theorem dL_law_1246 : decode cL_law 1246 = .ok (.invokevirtual 132, 3) := by decide +kernel
theorem dL_law_1249 : decode cL_law 1249 = .ok (.lcmp, 1) := by decide +kernel
theorem dL_law_1250 : decode cL_law 1250 = .ok (.ifCond .eq 421, 3) := by decide +kernel
theorem dL_law_1253 : decode cL_law 1253 = .ok (.iconst 0, 1) := by decide +kernel
theorem dL_law_1254 : decode cL_law 1254 = .ok (.ireturn, 1) := by decide +kernel
theorem dL_law_1255 : decode cL_law 1255 = .ok (.aload_n 1, 1) := by decide +kernel
theorem dL_law_1256 : decode cL_law 1256 = .ok (.aload_n 0, 1) := by decide +kernel
theorem dL_law_1257 : decode cL_law 1257 = .ok (.iload_n 3, 1) := by decide +kernel
theorem dL_law_1258 : decode cL_law 1258 = .ok (.iconst 1, 1) := by decide +kernel
theorem dL_law_1259 : decode cL_law 1259 = .ok (.iadd, 1) := by decide +kernel
theorem dL_law_1260 : decode cL_law 1260 = .ok (.iaload, 1) := by decide +kernel
theorem dL_law_1261 : decode cL_law 1261 = .ok (.aload_n 0, 1) := by decide +kernel
theorem dL_law_1262 : decode cL_law 1262 = .ok (.iload_n 3, 1) := by decide +kernel
theorem dL_law_1263 : decode cL_law 1263 = .ok (.iconst 2, 1) := by decide +kernel
theorem dL_law_1264 : decode cL_law 1264 = .ok (.iadd, 1) := by decide +kernel
theorem dL_law_1265 : decode cL_law 1265 = .ok (.iaload, 1) := by decide +kernel
theorem dL_law_1266 : decode cL_law 1266 = .ok (.invokevirtual 133, 3) := by decide +kernel
theorem dL_law_1269 : decode cL_law 1269 = .ok (.aload_n 2, 1) := by decide +kernel
theorem dL_law_1270 : decode cL_law 1270 = .ok (.aload_n 0, 1) := by decide +kernel
theorem dL_law_1271 : decode cL_law 1271 = .ok (.iload_n 3, 1) := by decide +kernel
theorem dL_law_1272 : decode cL_law 1272 = .ok (.iconst 1, 1) := by decide +kernel
theorem dL_law_1273 : decode cL_law 1273 = .ok (.iadd, 1) := by decide +kernel
theorem dL_law_1274 : decode cL_law 1274 = .ok (.iaload, 1) := by decide +kernel
theorem dL_law_1275 : decode cL_law 1275 = .ok (.aload_n 0, 1) := by decide +kernel
theorem dL_law_1276 : decode cL_law 1276 = .ok (.iload_n 3, 1) := by decide +kernel
theorem dL_law_1277 : decode cL_law 1277 = .ok (.iconst 2, 1) := by decide +kernel
theorem dL_law_1278 : decode cL_law 1278 = .ok (.iadd, 1) := by decide +kernel
theorem dL_law_1279 : decode cL_law 1279 = .ok (.iaload, 1) := by decide +kernel
theorem dL_law_1280 : decode cL_law 1280 = .ok (.invokevirtual 136, 3) := by decide +kernel
theorem dL_law_1283 : decode cL_law 1283 = .ok (.if_icmp .eq 388, 3) := by decide +kernel
theorem dL_law_1286 : decode cL_law 1286 = .ok (.iconst 0, 1) := by decide +kernel
theorem dL_law_1287 : decode cL_law 1287 = .ok (.ireturn, 1) := by decide +kernel
theorem dL_law_1288 : decode cL_law 1288 = .ok (.aload_n 1, 1) := by decide +kernel
theorem dL_law_1289 : decode cL_law 1289 = .ok (.aload_n 0, 1) := by decide +kernel
theorem dL_law_1290 : decode cL_law 1290 = .ok (.iload_n 3, 1) := by decide +kernel
theorem dL_law_1291 : decode cL_law 1291 = .ok (.iconst 1, 1) := by decide +kernel
theorem dL_law_1292 : decode cL_law 1292 = .ok (.iadd, 1) := by decide +kernel
theorem dL_law_1293 : decode cL_law 1293 = .ok (.iaload, 1) := by decide +kernel
theorem dL_law_1294 : decode cL_law 1294 = .ok (.aload_n 0, 1) := by decide +kernel
theorem dL_law_1295 : decode cL_law 1295 = .ok (.iload_n 3, 1) := by decide +kernel
theorem dL_law_1296 : decode cL_law 1296 = .ok (.iconst 2, 1) := by decide +kernel
theorem dL_law_1297 : decode cL_law 1297 = .ok (.iadd, 1) := by decide +kernel
theorem dL_law_1298 : decode cL_law 1298 = .ok (.iaload, 1) := by decide +kernel
theorem dL_law_1299 : decode cL_law 1299 = .ok (.aload_n 0, 1) := by decide +kernel
theorem dL_law_1300 : decode cL_law 1300 = .ok (.iload_n 3, 1) := by decide +kernel
theorem dL_law_1301 : decode cL_law 1301 = .ok (.iconst 3, 1) := by decide +kernel
theorem dL_law_1302 : decode cL_law 1302 = .ok (.iadd, 1) := by decide +kernel
theorem dL_law_1303 : decode cL_law 1303 = .ok (.iaload, 1) := by decide +kernel
theorem dL_law_1304 : decode cL_law 1304 = .ok (.aload_n 0, 1) := by decide +kernel
theorem dL_law_1305 : decode cL_law 1305 = .ok (.iload_n 3, 1) := by decide +kernel
theorem dL_law_1306 : decode cL_law 1306 = .ok (.iconst 4, 1) := by decide +kernel
theorem dL_law_1307 : decode cL_law 1307 = .ok (.iadd, 1) := by decide +kernel
theorem dL_law_1308 : decode cL_law 1308 = .ok (.iaload, 1) := by decide +kernel
theorem dL_law_1309 : decode cL_law 1309 = .ok (.invokevirtual 137, 3) := by decide +kernel
theorem dL_law_1312 : decode cL_law 1312 = .ok (.aload_n 2, 1) := by decide +kernel
theorem dL_law_1313 : decode cL_law 1313 = .ok (.aload_n 0, 1) := by decide +kernel
theorem dL_law_1314 : decode cL_law 1314 = .ok (.iload_n 3, 1) := by decide +kernel
theorem dL_law_1315 : decode cL_law 1315 = .ok (.iconst 1, 1) := by decide +kernel
theorem dL_law_1316 : decode cL_law 1316 = .ok (.iadd, 1) := by decide +kernel
theorem dL_law_1317 : decode cL_law 1317 = .ok (.iaload, 1) := by decide +kernel
theorem dL_law_1318 : decode cL_law 1318 = .ok (.aload_n 0, 1) := by decide +kernel
theorem dL_law_1319 : decode cL_law 1319 = .ok (.iload_n 3, 1) := by decide +kernel
theorem dL_law_1320 : decode cL_law 1320 = .ok (.iconst 2, 1) := by decide +kernel
theorem dL_law_1321 : decode cL_law 1321 = .ok (.iadd, 1) := by decide +kernel
theorem dL_law_1322 : decode cL_law 1322 = .ok (.iaload, 1) := by decide +kernel
theorem dL_law_1323 : decode cL_law 1323 = .ok (.aload_n 0, 1) := by decide +kernel
theorem dL_law_1324 : decode cL_law 1324 = .ok (.iload_n 3, 1) := by decide +kernel
theorem dL_law_1325 : decode cL_law 1325 = .ok (.iconst 3, 1) := by decide +kernel
theorem dL_law_1326 : decode cL_law 1326 = .ok (.iadd, 1) := by decide +kernel
theorem dL_law_1327 : decode cL_law 1327 = .ok (.iaload, 1) := by decide +kernel
theorem dL_law_1328 : decode cL_law 1328 = .ok (.aload_n 0, 1) := by decide +kernel
theorem dL_law_1329 : decode cL_law 1329 = .ok (.iload_n 3, 1) := by decide +kernel
theorem dL_law_1330 : decode cL_law 1330 = .ok (.iconst 4, 1) := by decide +kernel
theorem dL_law_1331 : decode cL_law 1331 = .ok (.iadd, 1) := by decide +kernel
theorem dL_law_1332 : decode cL_law 1332 = .ok (.iaload, 1) := by decide +kernel
theorem dL_law_1333 : decode cL_law 1333 = .ok (.invokevirtual 140, 3) := by decide +kernel
theorem dL_law_1336 : decode cL_law 1336 = .ok (.if_icmp .eq 335, 3) := by decide +kernel
theorem dL_law_1339 : decode cL_law 1339 = .ok (.iconst 0, 1) := by decide +kernel
theorem dL_law_1340 : decode cL_law 1340 = .ok (.ireturn, 1) := by decide +kernel
theorem dL_law_1341 : decode cL_law 1341 = .ok (.aload_n 1, 1) := by decide +kernel
theorem dL_law_1342 : decode cL_law 1342 = .ok (.aload_n 0, 1) := by decide +kernel
theorem dL_law_1343 : decode cL_law 1343 = .ok (.iload_n 3, 1) := by decide +kernel
theorem dL_law_1344 : decode cL_law 1344 = .ok (.iconst 1, 1) := by decide +kernel
theorem dL_law_1345 : decode cL_law 1345 = .ok (.iadd, 1) := by decide +kernel
theorem dL_law_1346 : decode cL_law 1346 = .ok (.iaload, 1) := by decide +kernel
theorem dL_law_1347 : decode cL_law 1347 = .ok (.aload_n 0, 1) := by decide +kernel
theorem dL_law_1348 : decode cL_law 1348 = .ok (.iload_n 3, 1) := by decide +kernel
theorem dL_law_1349 : decode cL_law 1349 = .ok (.iconst 2, 1) := by decide +kernel
theorem dL_law_1350 : decode cL_law 1350 = .ok (.iadd, 1) := by decide +kernel
theorem dL_law_1351 : decode cL_law 1351 = .ok (.iaload, 1) := by decide +kernel
theorem dL_law_1352 : decode cL_law 1352 = .ok (.invokevirtual 141, 3) := by decide +kernel
theorem dL_law_1355 : decode cL_law 1355 = .ok (.aload_n 2, 1) := by decide +kernel
theorem dL_law_1356 : decode cL_law 1356 = .ok (.aload_n 0, 1) := by decide +kernel
theorem dL_law_1357 : decode cL_law 1357 = .ok (.iload_n 3, 1) := by decide +kernel
theorem dL_law_1358 : decode cL_law 1358 = .ok (.iconst 1, 1) := by decide +kernel
theorem dL_law_1359 : decode cL_law 1359 = .ok (.iadd, 1) := by decide +kernel
theorem dL_law_1360 : decode cL_law 1360 = .ok (.iaload, 1) := by decide +kernel
theorem dL_law_1361 : decode cL_law 1361 = .ok (.aload_n 0, 1) := by decide +kernel
theorem dL_law_1362 : decode cL_law 1362 = .ok (.iload_n 3, 1) := by decide +kernel
theorem dL_law_1363 : decode cL_law 1363 = .ok (.iconst 2, 1) := by decide +kernel
theorem dL_law_1364 : decode cL_law 1364 = .ok (.iadd, 1) := by decide +kernel
theorem dL_law_1365 : decode cL_law 1365 = .ok (.iaload, 1) := by decide +kernel
theorem dL_law_1366 : decode cL_law 1366 = .ok (.invokevirtual 144, 3) := by decide +kernel
theorem dL_law_1369 : decode cL_law 1369 = .ok (.if_icmp .eq 302, 3) := by decide +kernel
theorem dL_law_1372 : decode cL_law 1372 = .ok (.iconst 0, 1) := by decide +kernel
theorem dL_law_1373 : decode cL_law 1373 = .ok (.ireturn, 1) := by decide +kernel
theorem dL_law_1374 : decode cL_law 1374 = .ok (.aload_n 1, 1) := by decide +kernel
theorem dL_law_1375 : decode cL_law 1375 = .ok (.aload_n 0, 1) := by decide +kernel
theorem dL_law_1376 : decode cL_law 1376 = .ok (.iload_n 3, 1) := by decide +kernel
theorem dL_law_1377 : decode cL_law 1377 = .ok (.iconst 1, 1) := by decide +kernel
theorem dL_law_1378 : decode cL_law 1378 = .ok (.iadd, 1) := by decide +kernel
theorem dL_law_1379 : decode cL_law 1379 = .ok (.iaload, 1) := by decide +kernel
theorem dL_law_1380 : decode cL_law 1380 = .ok (.invokevirtual 145, 3) := by decide +kernel
theorem dL_law_1383 : decode cL_law 1383 = .ok (.aload_n 2, 1) := by decide +kernel
theorem dL_law_1384 : decode cL_law 1384 = .ok (.aload_n 0, 1) := by decide +kernel
theorem dL_law_1385 : decode cL_law 1385 = .ok (.iload_n 3, 1) := by decide +kernel
theorem dL_law_1386 : decode cL_law 1386 = .ok (.iconst 1, 1) := by decide +kernel
theorem dL_law_1387 : decode cL_law 1387 = .ok (.iadd, 1) := by decide +kernel
theorem dL_law_1388 : decode cL_law 1388 = .ok (.iaload, 1) := by decide +kernel
theorem dL_law_1389 : decode cL_law 1389 = .ok (.invokevirtual 148, 3) := by decide +kernel
theorem dL_law_1392 : decode cL_law 1392 = .ok (.if_icmp .eq 279, 3) := by decide +kernel
theorem dL_law_1395 : decode cL_law 1395 = .ok (.iconst 0, 1) := by decide +kernel
theorem dL_law_1396 : decode cL_law 1396 = .ok (.ireturn, 1) := by decide +kernel
theorem dL_law_1397 : decode cL_law 1397 = .ok (.aload_n 1, 1) := by decide +kernel
theorem dL_law_1398 : decode cL_law 1398 = .ok (.aload_n 0, 1) := by decide +kernel
theorem dL_law_1399 : decode cL_law 1399 = .ok (.iload_n 3, 1) := by decide +kernel
theorem dL_law_1400 : decode cL_law 1400 = .ok (.iconst 1, 1) := by decide +kernel
theorem dL_law_1401 : decode cL_law 1401 = .ok (.iadd, 1) := by decide +kernel
theorem dL_law_1402 : decode cL_law 1402 = .ok (.iaload, 1) := by decide +kernel
theorem dL_law_1403 : decode cL_law 1403 = .ok (.invokevirtual 149, 3) := by decide +kernel
theorem dL_law_1406 : decode cL_law 1406 = .ok (.aload_n 2, 1) := by decide +kernel
theorem dL_law_1407 : decode cL_law 1407 = .ok (.aload_n 0, 1) := by decide +kernel
theorem dL_law_1408 : decode cL_law 1408 = .ok (.iload_n 3, 1) := by decide +kernel
theorem dL_law_1409 : decode cL_law 1409 = .ok (.iconst 1, 1) := by decide +kernel
theorem dL_law_1410 : decode cL_law 1410 = .ok (.iadd, 1) := by decide +kernel
theorem dL_law_1411 : decode cL_law 1411 = .ok (.iaload, 1) := by decide +kernel
theorem dL_law_1412 : decode cL_law 1412 = .ok (.invokevirtual 153, 3) := by decide +kernel
theorem dL_law_1415 : decode cL_law 1415 = .ok (.lcmp, 1) := by decide +kernel
theorem dL_law_1416 : decode cL_law 1416 = .ok (.ifCond .eq 255, 3) := by decide +kernel
theorem dL_law_1419 : decode cL_law 1419 = .ok (.iconst 0, 1) := by decide +kernel
theorem dL_law_1420 : decode cL_law 1420 = .ok (.ireturn, 1) := by decide +kernel
theorem dL_law_1421 : decode cL_law 1421 = .ok (.aload_n 1, 1) := by decide +kernel
theorem dL_law_1422 : decode cL_law 1422 = .ok (.aload_n 0, 1) := by decide +kernel
theorem dL_law_1423 : decode cL_law 1423 = .ok (.iload_n 3, 1) := by decide +kernel
theorem dL_law_1424 : decode cL_law 1424 = .ok (.iconst 1, 1) := by decide +kernel
theorem dL_law_1425 : decode cL_law 1425 = .ok (.iadd, 1) := by decide +kernel
theorem dL_law_1426 : decode cL_law 1426 = .ok (.iaload, 1) := by decide +kernel
theorem dL_law_1427 : decode cL_law 1427 = .ok (.aload_n 0, 1) := by decide +kernel
theorem dL_law_1428 : decode cL_law 1428 = .ok (.iload_n 3, 1) := by decide +kernel
theorem dL_law_1429 : decode cL_law 1429 = .ok (.iconst 2, 1) := by decide +kernel
theorem dL_law_1430 : decode cL_law 1430 = .ok (.iadd, 1) := by decide +kernel
theorem dL_law_1431 : decode cL_law 1431 = .ok (.iaload, 1) := by decide +kernel
theorem dL_law_1432 : decode cL_law 1432 = .ok (.aload_n 0, 1) := by decide +kernel
theorem dL_law_1433 : decode cL_law 1433 = .ok (.iload_n 3, 1) := by decide +kernel
theorem dL_law_1434 : decode cL_law 1434 = .ok (.iconst 3, 1) := by decide +kernel
theorem dL_law_1435 : decode cL_law 1435 = .ok (.iadd, 1) := by decide +kernel
theorem dL_law_1436 : decode cL_law 1436 = .ok (.iaload, 1) := by decide +kernel
theorem dL_law_1437 : decode cL_law 1437 = .ok (.invokevirtual 154, 3) := by decide +kernel
theorem dL_law_1440 : decode cL_law 1440 = .ok (.aload_n 2, 1) := by decide +kernel
theorem dL_law_1441 : decode cL_law 1441 = .ok (.aload_n 0, 1) := by decide +kernel
theorem dL_law_1442 : decode cL_law 1442 = .ok (.iload_n 3, 1) := by decide +kernel
theorem dL_law_1443 : decode cL_law 1443 = .ok (.iconst 1, 1) := by decide +kernel
theorem dL_law_1444 : decode cL_law 1444 = .ok (.iadd, 1) := by decide +kernel
theorem dL_law_1445 : decode cL_law 1445 = .ok (.iaload, 1) := by decide +kernel
theorem dL_law_1446 : decode cL_law 1446 = .ok (.aload_n 0, 1) := by decide +kernel
theorem dL_law_1447 : decode cL_law 1447 = .ok (.iload_n 3, 1) := by decide +kernel
theorem dL_law_1448 : decode cL_law 1448 = .ok (.iconst 2, 1) := by decide +kernel
theorem dL_law_1449 : decode cL_law 1449 = .ok (.iadd, 1) := by decide +kernel
theorem dL_law_1450 : decode cL_law 1450 = .ok (.iaload, 1) := by decide +kernel
theorem dL_law_1451 : decode cL_law 1451 = .ok (.aload_n 0, 1) := by decide +kernel
theorem dL_law_1452 : decode cL_law 1452 = .ok (.iload_n 3, 1) := by decide +kernel
theorem dL_law_1453 : decode cL_law 1453 = .ok (.iconst 3, 1) := by decide +kernel
theorem dL_law_1454 : decode cL_law 1454 = .ok (.iadd, 1) := by decide +kernel
theorem dL_law_1455 : decode cL_law 1455 = .ok (.iaload, 1) := by decide +kernel
theorem dL_law_1456 : decode cL_law 1456 = .ok (.invokevirtual 157, 3) := by decide +kernel
theorem dL_law_1459 : decode cL_law 1459 = .ok (.if_icmp .eq 212, 3) := by decide +kernel
theorem dL_law_1462 : decode cL_law 1462 = .ok (.iconst 0, 1) := by decide +kernel
theorem dL_law_1463 : decode cL_law 1463 = .ok (.ireturn, 1) := by decide +kernel
theorem dL_law_1464 : decode cL_law 1464 = .ok (.aload_n 1, 1) := by decide +kernel
theorem dL_law_1465 : decode cL_law 1465 = .ok (.aload_n 0, 1) := by decide +kernel
theorem dL_law_1466 : decode cL_law 1466 = .ok (.iload_n 3, 1) := by decide +kernel
theorem dL_law_1467 : decode cL_law 1467 = .ok (.iconst 1, 1) := by decide +kernel
theorem dL_law_1468 : decode cL_law 1468 = .ok (.iadd, 1) := by decide +kernel
theorem dL_law_1469 : decode cL_law 1469 = .ok (.iaload, 1) := by decide +kernel
theorem dL_law_1470 : decode cL_law 1470 = .ok (.invokevirtual 158, 3) := by decide +kernel
theorem dL_law_1473 : decode cL_law 1473 = .ok (.aload_n 2, 1) := by decide +kernel
theorem dL_law_1474 : decode cL_law 1474 = .ok (.aload_n 0, 1) := by decide +kernel
theorem dL_law_1475 : decode cL_law 1475 = .ok (.iload_n 3, 1) := by decide +kernel
theorem dL_law_1476 : decode cL_law 1476 = .ok (.iconst 1, 1) := by decide +kernel
theorem dL_law_1477 : decode cL_law 1477 = .ok (.iadd, 1) := by decide +kernel
theorem dL_law_1478 : decode cL_law 1478 = .ok (.iaload, 1) := by decide +kernel
theorem dL_law_1479 : decode cL_law 1479 = .ok (.invokevirtual 161, 3) := by decide +kernel
theorem dL_law_1482 : decode cL_law 1482 = .ok (.if_icmp .eq 189, 3) := by decide +kernel
theorem dL_law_1485 : decode cL_law 1485 = .ok (.iconst 0, 1) := by decide +kernel
theorem dL_law_1486 : decode cL_law 1486 = .ok (.ireturn, 1) := by decide +kernel
theorem dL_law_1487 : decode cL_law 1487 = .ok (.aload_n 1, 1) := by decide +kernel
theorem dL_law_1488 : decode cL_law 1488 = .ok (.aload_n 0, 1) := by decide +kernel
theorem dL_law_1489 : decode cL_law 1489 = .ok (.iload_n 3, 1) := by decide +kernel
theorem dL_law_1490 : decode cL_law 1490 = .ok (.iconst 1, 1) := by decide +kernel
theorem dL_law_1491 : decode cL_law 1491 = .ok (.iadd, 1) := by decide +kernel
theorem dL_law_1492 : decode cL_law 1492 = .ok (.iaload, 1) := by decide +kernel
theorem dL_law_1493 : decode cL_law 1493 = .ok (.invokevirtual 162, 3) := by decide +kernel
theorem dL_law_1496 : decode cL_law 1496 = .ok (.aload_n 2, 1) := by decide +kernel
theorem dL_law_1497 : decode cL_law 1497 = .ok (.aload_n 0, 1) := by decide +kernel
theorem dL_law_1498 : decode cL_law 1498 = .ok (.iload_n 3, 1) := by decide +kernel
theorem dL_law_1499 : decode cL_law 1499 = .ok (.iconst 1, 1) := by decide +kernel
theorem dL_law_1500 : decode cL_law 1500 = .ok (.iadd, 1) := by decide +kernel
theorem dL_law_1501 : decode cL_law 1501 = .ok (.iaload, 1) := by decide +kernel
theorem dL_law_1502 : decode cL_law 1502 = .ok (.invokevirtual 165, 3) := by decide +kernel
theorem dL_law_1505 : decode cL_law 1505 = .ok (.if_icmp .eq 166, 3) := by decide +kernel
theorem dL_law_1508 : decode cL_law 1508 = .ok (.iconst 0, 1) := by decide +kernel
theorem dL_law_1509 : decode cL_law 1509 = .ok (.ireturn, 1) := by decide +kernel
theorem dL_law_1510 : decode cL_law 1510 = .ok (.aload_n 1, 1) := by decide +kernel
theorem dL_law_1511 : decode cL_law 1511 = .ok (.aload_n 0, 1) := by decide +kernel
theorem dL_law_1512 : decode cL_law 1512 = .ok (.iload_n 3, 1) := by decide +kernel
theorem dL_law_1513 : decode cL_law 1513 = .ok (.iconst 1, 1) := by decide +kernel
theorem dL_law_1514 : decode cL_law 1514 = .ok (.iadd, 1) := by decide +kernel
theorem dL_law_1515 : decode cL_law 1515 = .ok (.iaload, 1) := by decide +kernel
theorem dL_law_1516 : decode cL_law 1516 = .ok (.aload_n 0, 1) := by decide +kernel
theorem dL_law_1517 : decode cL_law 1517 = .ok (.iload_n 3, 1) := by decide +kernel
theorem dL_law_1518 : decode cL_law 1518 = .ok (.iconst 2, 1) := by decide +kernel
theorem dL_law_1519 : decode cL_law 1519 = .ok (.iadd, 1) := by decide +kernel
theorem dL_law_1520 : decode cL_law 1520 = .ok (.iaload, 1) := by decide +kernel
theorem dL_law_1521 : decode cL_law 1521 = .ok (.aload_n 0, 1) := by decide +kernel
theorem dL_law_1522 : decode cL_law 1522 = .ok (.iload_n 3, 1) := by decide +kernel
theorem dL_law_1523 : decode cL_law 1523 = .ok (.iconst 3, 1) := by decide +kernel
theorem dL_law_1524 : decode cL_law 1524 = .ok (.iadd, 1) := by decide +kernel
theorem dL_law_1525 : decode cL_law 1525 = .ok (.iaload, 1) := by decide +kernel
theorem dL_law_1526 : decode cL_law 1526 = .ok (.aload_n 0, 1) := by decide +kernel
theorem dL_law_1527 : decode cL_law 1527 = .ok (.iload_n 3, 1) := by decide +kernel
theorem dL_law_1528 : decode cL_law 1528 = .ok (.iconst 4, 1) := by decide +kernel
theorem dL_law_1529 : decode cL_law 1529 = .ok (.iadd, 1) := by decide +kernel
theorem dL_law_1530 : decode cL_law 1530 = .ok (.iaload, 1) := by decide +kernel
theorem dL_law_1531 : decode cL_law 1531 = .ok (.invokevirtual 166, 3) := by decide +kernel
theorem dL_law_1534 : decode cL_law 1534 = .ok (.aload_n 2, 1) := by decide +kernel
theorem dL_law_1535 : decode cL_law 1535 = .ok (.aload_n 0, 1) := by decide +kernel
theorem dL_law_1536 : decode cL_law 1536 = .ok (.iload_n 3, 1) := by decide +kernel
theorem dL_law_1537 : decode cL_law 1537 = .ok (.iconst 1, 1) := by decide +kernel
theorem dL_law_1538 : decode cL_law 1538 = .ok (.iadd, 1) := by decide +kernel
theorem dL_law_1539 : decode cL_law 1539 = .ok (.iaload, 1) := by decide +kernel
theorem dL_law_1540 : decode cL_law 1540 = .ok (.aload_n 0, 1) := by decide +kernel
theorem dL_law_1541 : decode cL_law 1541 = .ok (.iload_n 3, 1) := by decide +kernel
theorem dL_law_1542 : decode cL_law 1542 = .ok (.iconst 2, 1) := by decide +kernel
theorem dL_law_1543 : decode cL_law 1543 = .ok (.iadd, 1) := by decide +kernel
theorem dL_law_1544 : decode cL_law 1544 = .ok (.iaload, 1) := by decide +kernel
theorem dL_law_1545 : decode cL_law 1545 = .ok (.aload_n 0, 1) := by decide +kernel
theorem dL_law_1546 : decode cL_law 1546 = .ok (.iload_n 3, 1) := by decide +kernel
theorem dL_law_1547 : decode cL_law 1547 = .ok (.iconst 3, 1) := by decide +kernel
theorem dL_law_1548 : decode cL_law 1548 = .ok (.iadd, 1) := by decide +kernel
theorem dL_law_1549 : decode cL_law 1549 = .ok (.iaload, 1) := by decide +kernel
theorem dL_law_1550 : decode cL_law 1550 = .ok (.aload_n 0, 1) := by decide +kernel
theorem dL_law_1551 : decode cL_law 1551 = .ok (.iload_n 3, 1) := by decide +kernel
theorem dL_law_1552 : decode cL_law 1552 = .ok (.iconst 4, 1) := by decide +kernel
theorem dL_law_1553 : decode cL_law 1553 = .ok (.iadd, 1) := by decide +kernel
theorem dL_law_1554 : decode cL_law 1554 = .ok (.iaload, 1) := by decide +kernel
theorem dL_law_1555 : decode cL_law 1555 = .ok (.invokevirtual 169, 3) := by decide +kernel
theorem dL_law_1558 : decode cL_law 1558 = .ok (.if_icmp .eq 113, 3) := by decide +kernel
theorem dL_law_1561 : decode cL_law 1561 = .ok (.iconst 0, 1) := by decide +kernel
theorem dL_law_1562 : decode cL_law 1562 = .ok (.ireturn, 1) := by decide +kernel
theorem dL_law_1563 : decode cL_law 1563 = .ok (.aload_n 1, 1) := by decide +kernel
theorem dL_law_1564 : decode cL_law 1564 = .ok (.aload_n 0, 1) := by decide +kernel
theorem dL_law_1565 : decode cL_law 1565 = .ok (.iload_n 3, 1) := by decide +kernel
theorem dL_law_1566 : decode cL_law 1566 = .ok (.iconst 1, 1) := by decide +kernel
theorem dL_law_1567 : decode cL_law 1567 = .ok (.iadd, 1) := by decide +kernel
theorem dL_law_1568 : decode cL_law 1568 = .ok (.iaload, 1) := by decide +kernel
theorem dL_law_1569 : decode cL_law 1569 = .ok (.aload_n 0, 1) := by decide +kernel
theorem dL_law_1570 : decode cL_law 1570 = .ok (.iload_n 3, 1) := by decide +kernel
theorem dL_law_1571 : decode cL_law 1571 = .ok (.iconst 2, 1) := by decide +kernel
theorem dL_law_1572 : decode cL_law 1572 = .ok (.iadd, 1) := by decide +kernel
theorem dL_law_1573 : decode cL_law 1573 = .ok (.iaload, 1) := by decide +kernel
theorem dL_law_1574 : decode cL_law 1574 = .ok (.invokevirtual 170, 3) := by decide +kernel
theorem dL_law_1577 : decode cL_law 1577 = .ok (.aload_n 2, 1) := by decide +kernel
theorem dL_law_1578 : decode cL_law 1578 = .ok (.aload_n 0, 1) := by decide +kernel
theorem dL_law_1579 : decode cL_law 1579 = .ok (.iload_n 3, 1) := by decide +kernel
theorem dL_law_1580 : decode cL_law 1580 = .ok (.iconst 1, 1) := by decide +kernel
theorem dL_law_1581 : decode cL_law 1581 = .ok (.iadd, 1) := by decide +kernel
theorem dL_law_1582 : decode cL_law 1582 = .ok (.iaload, 1) := by decide +kernel
theorem dL_law_1583 : decode cL_law 1583 = .ok (.aload_n 0, 1) := by decide +kernel
theorem dL_law_1584 : decode cL_law 1584 = .ok (.iload_n 3, 1) := by decide +kernel
theorem dL_law_1585 : decode cL_law 1585 = .ok (.iconst 2, 1) := by decide +kernel
theorem dL_law_1586 : decode cL_law 1586 = .ok (.iadd, 1) := by decide +kernel
theorem dL_law_1587 : decode cL_law 1587 = .ok (.iaload, 1) := by decide +kernel
theorem dL_law_1588 : decode cL_law 1588 = .ok (.invokevirtual 173, 3) := by decide +kernel
theorem dL_law_1591 : decode cL_law 1591 = .ok (.if_icmp .eq 80, 3) := by decide +kernel
theorem dL_law_1594 : decode cL_law 1594 = .ok (.iconst 0, 1) := by decide +kernel
theorem dL_law_1595 : decode cL_law 1595 = .ok (.ireturn, 1) := by decide +kernel
theorem dL_law_1596 : decode cL_law 1596 = .ok (.aload_n 1, 1) := by decide +kernel
theorem dL_law_1597 : decode cL_law 1597 = .ok (.invokevirtual 174, 3) := by decide +kernel
theorem dL_law_1600 : decode cL_law 1600 = .ok (.aload_n 2, 1) := by decide +kernel
theorem dL_law_1601 : decode cL_law 1601 = .ok (.invokevirtual 177, 3) := by decide +kernel
theorem dL_law_1604 : decode cL_law 1604 = .ok (.if_icmp .eq 67, 3) := by decide +kernel
theorem dL_law_1607 : decode cL_law 1607 = .ok (.iconst 0, 1) := by decide +kernel
theorem dL_law_1608 : decode cL_law 1608 = .ok (.ireturn, 1) := by decide +kernel
theorem dL_law_1609 : decode cL_law 1609 = .ok (.aload_n 1, 1) := by decide +kernel
theorem dL_law_1610 : decode cL_law 1610 = .ok (.aload_n 0, 1) := by decide +kernel
theorem dL_law_1611 : decode cL_law 1611 = .ok (.iload_n 3, 1) := by decide +kernel
theorem dL_law_1612 : decode cL_law 1612 = .ok (.iconst 1, 1) := by decide +kernel
theorem dL_law_1613 : decode cL_law 1613 = .ok (.iadd, 1) := by decide +kernel
theorem dL_law_1614 : decode cL_law 1614 = .ok (.iaload, 1) := by decide +kernel
theorem dL_law_1615 : decode cL_law 1615 = .ok (.ifCond .eq 7, 3) := by decide +kernel
theorem dL_law_1618 : decode cL_law 1618 = .ok (.iconst 1, 1) := by decide +kernel
theorem dL_law_1619 : decode cL_law 1619 = .ok (.goto 4, 3) := by decide +kernel
theorem dL_law_1622 : decode cL_law 1622 = .ok (.iconst 0, 1) := by decide +kernel
theorem dL_law_1623 : decode cL_law 1623 = .ok (.invokevirtual 178, 3) := by decide +kernel
theorem dL_law_1626 : decode cL_law 1626 = .ok (.aload_n 2, 1) := by decide +kernel
theorem dL_law_1627 : decode cL_law 1627 = .ok (.aload_n 0, 1) := by decide +kernel
theorem dL_law_1628 : decode cL_law 1628 = .ok (.iload_n 3, 1) := by decide +kernel
theorem dL_law_1629 : decode cL_law 1629 = .ok (.iconst 1, 1) := by decide +kernel
theorem dL_law_1630 : decode cL_law 1630 = .ok (.iadd, 1) := by decide +kernel
theorem dL_law_1631 : decode cL_law 1631 = .ok (.iaload, 1) := by decide +kernel
theorem dL_law_1632 : decode cL_law 1632 = .ok (.ifCond .eq 7, 3) := by decide +kernel
theorem dL_law_1635 : decode cL_law 1635 = .ok (.iconst 1, 1) := by decide +kernel
theorem dL_law_1636 : decode cL_law 1636 = .ok (.goto 4, 3) := by decide +kernel
theorem dL_law_1639 : decode cL_law 1639 = .ok (.iconst 0, 1) := by decide +kernel
theorem dL_law_1640 : decode cL_law 1640 = .ok (.invokevirtual 182, 3) := by decide +kernel
theorem dL_law_1643 : decode cL_law 1643 = .ok (.if_icmp .eq 28, 3) := by decide +kernel
theorem dL_law_1646 : decode cL_law 1646 = .ok (.iconst 0, 1) := by decide +kernel
theorem dL_law_1647 : decode cL_law 1647 = .ok (.ireturn, 1) := by decide +kernel
theorem dL_law_1648 : decode cL_law 1648 = .ok (.aload_n 1, 1) := by decide +kernel
theorem dL_law_1649 : decode cL_law 1649 = .ok (.aload_n 0, 1) := by decide +kernel
theorem dL_law_1650 : decode cL_law 1650 = .ok (.iload_n 3, 1) := by decide +kernel
theorem dL_law_1651 : decode cL_law 1651 = .ok (.iconst 1, 1) := by decide +kernel
theorem dL_law_1652 : decode cL_law 1652 = .ok (.iadd, 1) := by decide +kernel
theorem dL_law_1653 : decode cL_law 1653 = .ok (.iaload, 1) := by decide +kernel
theorem dL_law_1654 : decode cL_law 1654 = .ok (.invokevirtual 183, 3) := by decide +kernel
theorem dL_law_1657 : decode cL_law 1657 = .ok (.aload_n 2, 1) := by decide +kernel
theorem dL_law_1658 : decode cL_law 1658 = .ok (.aload_n 0, 1) := by decide +kernel
theorem dL_law_1659 : decode cL_law 1659 = .ok (.iload_n 3, 1) := by decide +kernel
theorem dL_law_1660 : decode cL_law 1660 = .ok (.iconst 1, 1) := by decide +kernel
theorem dL_law_1661 : decode cL_law 1661 = .ok (.iadd, 1) := by decide +kernel
theorem dL_law_1662 : decode cL_law 1662 = .ok (.iaload, 1) := by decide +kernel
theorem dL_law_1663 : decode cL_law 1663 = .ok (.invokevirtual 186, 3) := by decide +kernel
theorem dL_law_1666 : decode cL_law 1666 = .ok (.if_icmp .eq 5, 3) := by decide +kernel
theorem dL_law_1669 : decode cL_law 1669 = .ok (.iconst 0, 1) := by decide +kernel
theorem dL_law_1670 : decode cL_law 1670 = .ok (.ireturn, 1) := by decide +kernel
theorem dL_law_1671 : decode cL_law 1671 = .ok (.iinc 3 8, 3) := by decide +kernel
theorem dL_law_1674 : decode cL_law 1674 = .ok (.goto (-1656), 3) := by decide +kernel
theorem dL_law_1677 : decode cL_law 1677 = .ok (.iconst 1, 1) := by decide +kernel
theorem dL_law_1678 : decode cL_law 1678 = .ok (.ireturn, 1) := by decide +kernel
