theorem dL_cell_0 : decode cL_cell 0 = .ok (.iload_n 1, 1) := by decide +kernel
theorem dL_cell_1 : decode cL_cell 1 = .ok (.aload_n 0, 1) := by decide +kernel
theorem dL_cell_2 : decode cL_cell 2 = .ok (.arraylength, 1) := by decide +kernel
theorem dL_cell_3 : decode cL_cell 3 = .ok (.if_icmp .ge 9, 3) := by decide +kernel
theorem dL_cell_6 : decode cL_cell 6 = .ok (.aload_n 0, 1) := by decide +kernel
theorem dL_cell_7 : decode cL_cell 7 = .ok (.iload_n 1, 1) := by decide +kernel
theorem dL_cell_8 : decode cL_cell 8 = .ok (.iaload, 1) := by decide +kernel
theorem dL_cell_9 : decode cL_cell 9 = .ok (.goto 11, 3) := by decide +kernel
theorem dL_cell_12 : decode cL_cell 12 = .ok (.ldc 7, 2) := by decide +kernel
theorem dL_cell_14 : decode cL_cell 14 = .ok (.iload_n 1, 1) := by decide +kernel
theorem dL_cell_15 : decode cL_cell 15 = .ok (.sipush 337, 3) := by decide +kernel
theorem dL_cell_18 : decode cL_cell 18 = .ok (.iadd, 1) := by decide +kernel
theorem dL_cell_19 : decode cL_cell 19 = .ok (.imul, 1) := by decide +kernel
theorem dL_cell_20 : decode cL_cell 20 = .ok (.ireturn, 1) := by decide +kernel
theorem dL_up_0 : decode cL_up 0 = .ok (.iload_n 0, 1) := by decide +kernel
theorem dL_up_1 : decode cL_up 1 = .ok (.ldc 8, 2) := by decide +kernel
theorem dL_up_3 : decode cL_up 3 = .ok (.iand, 1) := by decide +kernel
theorem dL_up_4 : decode cL_up 4 = .ok (.iload_n 1, 1) := by decide +kernel
theorem dL_up_5 : decode cL_up 5 = .ok (.irem, 1) := by decide +kernel
theorem dL_up_6 : decode cL_up 6 = .ok (.ireturn, 1) := by decide +kernel
theorem dL_talk_0 : decode cL_talk 0 = .ok (.ldc2_w 9, 3) := by decide +kernel
theorem dL_talk_3 : decode cL_talk 3 = .ok (.aload_n 0, 1) := by decide +kernel
theorem dL_talk_4 : decode cL_talk 4 = .ok (.iload_n 1, 1) := by decide +kernel
theorem dL_talk_5 : decode cL_talk 5 = .ok (.invokevirtual 11, 3) := by decide +kernel
theorem dL_talk_8 : decode cL_talk 8 = .ok (.i2l, 1) := by decide +kernel
theorem dL_talk_9 : decode cL_talk 9 = .ok (.lmul, 1) := by decide +kernel
theorem dL_talk_10 : decode cL_talk 10 = .ok (.aload_n 0, 1) := by decide +kernel
theorem dL_talk_11 : decode cL_talk 11 = .ok (.iload_n 1, 1) := by decide +kernel
theorem dL_talk_12 : decode cL_talk 12 = .ok (.invokevirtual 17, 3) := by decide +kernel
theorem dL_talk_15 : decode cL_talk 15 = .ok (.i2l, 1) := by decide +kernel
theorem dL_talk_16 : decode cL_talk 16 = .ok (.ladd, 1) := by decide +kernel
theorem dL_talk_17 : decode cL_talk 17 = .ok (.lstore_n 2, 1) := by decide +kernel
theorem dL_talk_18 : decode cL_talk 18 = .ok (.iconst 0, 1) := by decide +kernel
theorem dL_talk_19 : decode cL_talk 19 = .ok (.istore 4, 2) := by decide +kernel
theorem dL_talk_21 : decode cL_talk 21 = .ok (.iload 4, 2) := by decide +kernel
theorem dL_talk_23 : decode cL_talk 23 = .ok (.aload_n 0, 1) := by decide +kernel
theorem dL_talk_24 : decode cL_talk 24 = .ok (.iload_n 1, 1) := by decide +kernel
theorem dL_talk_25 : decode cL_talk 25 = .ok (.invokevirtual 11, 3) := by decide +kernel
theorem dL_talk_28 : decode cL_talk 28 = .ok (.if_icmp .ge 50, 3) := by decide +kernel
theorem dL_talk_31 : decode cL_talk 31 = .ok (.ldc2_w 9, 3) := by decide +kernel
theorem dL_talk_34 : decode cL_talk 34 = .ok (.ldc2_w 9, 3) := by decide +kernel
theorem dL_talk_37 : decode cL_talk 37 = .ok (.ldc2_w 9, 3) := by decide +kernel
theorem dL_talk_40 : decode cL_talk 40 = .ok (.lload_n 2, 1) := by decide +kernel
theorem dL_talk_41 : decode cL_talk 41 = .ok (.lmul, 1) := by decide +kernel
theorem dL_talk_42 : decode cL_talk 42 = .ok (.aload_n 0, 1) := by decide +kernel
theorem dL_talk_43 : decode cL_talk 43 = .ok (.iload_n 1, 1) := by decide +kernel
theorem dL_talk_44 : decode cL_talk 44 = .ok (.iload 4, 2) := by decide +kernel
theorem dL_talk_46 : decode cL_talk 46 = .ok (.invokevirtual 20, 3) := by decide +kernel
theorem dL_talk_49 : decode cL_talk 49 = .ok (.i2l, 1) := by decide +kernel
theorem dL_talk_50 : decode cL_talk 50 = .ok (.ladd, 1) := by decide +kernel
theorem dL_talk_51 : decode cL_talk 51 = .ok (.lmul, 1) := by decide +kernel
theorem dL_talk_52 : decode cL_talk 52 = .ok (.aload_n 0, 1) := by decide +kernel
theorem dL_talk_53 : decode cL_talk 53 = .ok (.iload_n 1, 1) := by decide +kernel
theorem dL_talk_54 : decode cL_talk 54 = .ok (.iload 4, 2) := by decide +kernel
theorem dL_talk_56 : decode cL_talk 56 = .ok (.invokevirtual 24, 3) := by decide +kernel
theorem dL_talk_59 : decode cL_talk 59 = .ok (.i2l, 1) := by decide +kernel
theorem dL_talk_60 : decode cL_talk 60 = .ok (.ladd, 1) := by decide +kernel
theorem dL_talk_61 : decode cL_talk 61 = .ok (.lmul, 1) := by decide +kernel
theorem dL_talk_62 : decode cL_talk 62 = .ok (.aload_n 0, 1) := by decide +kernel
theorem dL_talk_63 : decode cL_talk 63 = .ok (.iload_n 1, 1) := by decide +kernel
theorem dL_talk_64 : decode cL_talk 64 = .ok (.iload 4, 2) := by decide +kernel
theorem dL_talk_66 : decode cL_talk 66 = .ok (.invokevirtual 27, 3) := by decide +kernel
theorem dL_talk_69 : decode cL_talk 69 = .ok (.i2l, 1) := by decide +kernel
theorem dL_talk_70 : decode cL_talk 70 = .ok (.ladd, 1) := by decide +kernel
theorem dL_talk_71 : decode cL_talk 71 = .ok (.lstore_n 2, 1) := by decide +kernel
theorem dL_talk_72 : decode cL_talk 72 = .ok (.iinc 4 1, 3) := by decide +kernel
theorem dL_talk_75 : decode cL_talk 75 = .ok (.goto (-54), 3) := by decide +kernel
theorem dL_talk_78 : decode cL_talk 78 = .ok (.lload_n 2, 1) := by decide +kernel
theorem dL_talk_79 : decode cL_talk 79 = .ok (.lreturn, 1) := by decide +kernel
theorem dL_isWritable_0 : decode cL_isWritable 0 = .ok (.aload_n 0, 1) := by decide +kernel
theorem dL_isWritable_1 : decode cL_isWritable 1 = .ok (.iload_n 1, 1) := by decide +kernel
theorem dL_isWritable_2 : decode cL_isWritable 2 = .ok (.invokevirtual 30, 3) := by decide +kernel
theorem dL_isWritable_5 : decode cL_isWritable 5 = .ok (.istore_n 2, 1) := by decide +kernel
theorem dL_isWritable_6 : decode cL_isWritable 6 = .ok (.iload_n 2, 1) := by decide +kernel
theorem dL_isWritable_7 : decode cL_isWritable 7 = .ok (.iconst (-1), 1) := by decide +kernel
theorem dL_isWritable_8 : decode cL_isWritable 8 = .ok (.if_icmp .eq 19, 3) := by decide +kernel
theorem dL_isWritable_11 : decode cL_isWritable 11 = .ok (.iload_n 2, 1) := by decide +kernel
theorem dL_isWritable_12 : decode cL_isWritable 12 = .ok (.aload_n 0, 1) := by decide +kernel
theorem dL_isWritable_13 : decode cL_isWritable 13 = .ok (.invokevirtual 33, 3) := by decide +kernel
theorem dL_isWritable_16 : decode cL_isWritable 16 = .ok (.if_icmp .eq 15, 3) := by decide +kernel
theorem dL_isWritable_19 : decode cL_isWritable 19 = .ok (.aload_n 0, 1) := by decide +kernel
theorem dL_isWritable_20 : decode cL_isWritable 20 = .ok (.iload_n 2, 1) := by decide +kernel
theorem dL_isWritable_21 : decode cL_isWritable 21 = .ok (.invokevirtual 37, 3) := by decide +kernel
theorem dL_isWritable_24 : decode cL_isWritable 24 = .ok (.ifCond .ne 7, 3) := by decide +kernel
theorem dL_isWritable_27 : decode cL_isWritable 27 = .ok (.iconst 1, 1) := by decide +kernel
theorem dL_isWritable_28 : decode cL_isWritable 28 = .ok (.goto 4, 3) := by decide +kernel
theorem dL_isWritable_31 : decode cL_isWritable 31 = .ok (.iconst 0, 1) := by decide +kernel
theorem dL_isWritable_32 : decode cL_isWritable 32 = .ok (.ireturn, 1) := by decide +kernel
theorem dL_speaks_0 : decode cL_speaks 0 = .ok (.aload_n 0, 1) := by decide +kernel
theorem dL_speaks_1 : decode cL_speaks 1 = .ok (.invokevirtual 33, 3) := by decide +kernel
theorem dL_speaks_4 : decode cL_speaks 4 = .ok (.iconst (-1), 1) := by decide +kernel
theorem dL_speaks_5 : decode cL_speaks 5 = .ok (.if_icmp .eq 10, 3) := by decide +kernel
theorem dL_speaks_8 : decode cL_speaks 8 = .ok (.aload_n 0, 1) := by decide +kernel
theorem dL_speaks_9 : decode cL_speaks 9 = .ok (.invokevirtual 41, 3) := by decide +kernel
theorem dL_speaks_12 : decode cL_speaks 12 = .ok (.ifCond .ne 27, 3) := by decide +kernel
theorem dL_speaks_15 : decode cL_speaks 15 = .ok (.aload_n 0, 1) := by decide +kernel
theorem dL_speaks_16 : decode cL_speaks 16 = .ok (.iconst 0, 1) := by decide +kernel
theorem dL_speaks_17 : decode cL_speaks 17 = .ok (.aload_n 0, 1) := by decide +kernel
theorem dL_speaks_18 : decode cL_speaks 18 = .ok (.iconst 0, 1) := by decide +kernel
theorem dL_speaks_19 : decode cL_speaks 19 = .ok (.invokevirtual 37, 3) := by decide +kernel
theorem dL_speaks_22 : decode cL_speaks 22 = .ok (.invokevirtual 44, 3) := by decide +kernel
theorem dL_speaks_25 : decode cL_speaks 25 = .ok (.aload_n 0, 1) := by decide +kernel
theorem dL_speaks_26 : decode cL_speaks 26 = .ok (.iconst 0, 1) := by decide +kernel
theorem dL_speaks_27 : decode cL_speaks 27 = .ok (.invokevirtual 37, 3) := by decide +kernel
theorem dL_speaks_30 : decode cL_speaks 30 = .ok (.if_icmp .ne 7, 3) := by decide +kernel
theorem dL_speaks_33 : decode cL_speaks 33 = .ok (.iconst 1, 1) := by decide +kernel
theorem dL_speaks_34 : decode cL_speaks 34 = .ok (.goto 4, 3) := by decide +kernel
theorem dL_speaks_37 : decode cL_speaks 37 = .ok (.iconst 0, 1) := by decide +kernel
theorem dL_speaks_38 : decode cL_speaks 38 = .ok (.ireturn, 1) := by decide +kernel
theorem dL_speaks_39 : decode cL_speaks 39 = .ok (.aload_n 0, 1) := by decide +kernel
theorem dL_speaks_40 : decode cL_speaks 40 = .ok (.invokevirtual 48, 3) := by decide +kernel
theorem dL_speaks_43 : decode cL_speaks 43 = .ok (.istore_n 2, 1) := by decide +kernel
theorem dL_speaks_44 : decode cL_speaks 44 = .ok (.aload_n 0, 1) := by decide +kernel
theorem dL_speaks_45 : decode cL_speaks 45 = .ok (.iload_n 2, 1) := by decide +kernel
theorem dL_speaks_46 : decode cL_speaks 46 = .ok (.invokestatic 51, 3) := by decide +kernel
theorem dL_speaks_49 : decode cL_speaks 49 = .ok (.ifCond .ne 13, 3) := by decide +kernel
theorem dL_speaks_52 : decode cL_speaks 52 = .ok (.iload_n 2, 1) := by decide +kernel
theorem dL_speaks_53 : decode cL_speaks 53 = .ok (.iconst 1, 1) := by decide +kernel
theorem dL_speaks_54 : decode cL_speaks 54 = .ok (.iadd, 1) := by decide +kernel
theorem dL_speaks_55 : decode cL_speaks 55 = .ok (.bipush 32, 2) := by decide +kernel
theorem dL_speaks_57 : decode cL_speaks 57 = .ok (.irem, 1) := by decide +kernel
theorem dL_speaks_58 : decode cL_speaks 58 = .ok (.istore_n 2, 1) := by decide +kernel
theorem dL_speaks_59 : decode cL_speaks 59 = .ok (.goto (-15), 3) := by decide +kernel
theorem dL_speaks_62 : decode cL_speaks 62 = .ok (.aload_n 0, 1) := by decide +kernel
theorem dL_speaks_63 : decode cL_speaks 63 = .ok (.iload_n 2, 1) := by decide +kernel
theorem dL_speaks_64 : decode cL_speaks 64 = .ok (.invokevirtual 30, 3) := by decide +kernel
theorem dL_speaks_67 : decode cL_speaks 67 = .ok (.istore_n 3, 1) := by decide +kernel
theorem dL_speaks_68 : decode cL_speaks 68 = .ok (.aload_n 0, 1) := by decide +kernel
theorem dL_speaks_69 : decode cL_speaks 69 = .ok (.invokevirtual 57, 3) := by decide +kernel
theorem dL_speaks_72 : decode cL_speaks 72 = .ok (.istore 4, 2) := by decide +kernel
theorem dL_speaks_74 : decode cL_speaks 74 = .ok (.aload_n 0, 1) := by decide +kernel
theorem dL_speaks_75 : decode cL_speaks 75 = .ok (.invokevirtual 60, 3) := by decide +kernel
theorem dL_speaks_78 : decode cL_speaks 78 = .ok (.istore 5, 2) := by decide +kernel
theorem dL_speaks_80 : decode cL_speaks 80 = .ok (.aload_n 0, 1) := by decide +kernel
theorem dL_speaks_81 : decode cL_speaks 81 = .ok (.invokevirtual 63, 3) := by decide +kernel
theorem dL_speaks_84 : decode cL_speaks 84 = .ok (.istore 6, 2) := by decide +kernel
theorem dL_speaks_86 : decode cL_speaks 86 = .ok (.aload_n 0, 1) := by decide +kernel
theorem dL_speaks_87 : decode cL_speaks 87 = .ok (.invokevirtual 33, 3) := by decide +kernel
theorem dL_speaks_90 : decode cL_speaks 90 = .ok (.istore 7, 2) := by decide +kernel
theorem dL_speaks_92 : decode cL_speaks 92 = .ok (.aload_n 0, 1) := by decide +kernel
theorem dL_speaks_93 : decode cL_speaks 93 = .ok (.iload 7, 2) := by decide +kernel
theorem dL_speaks_95 : decode cL_speaks 95 = .ok (.invokevirtual 11, 3) := by decide +kernel
theorem dL_speaks_98 : decode cL_speaks 98 = .ok (.istore 8, 2) := by decide +kernel
theorem dL_speaks_100 : decode cL_speaks 100 = .ok (.aload_n 0, 1) := by decide +kernel
theorem dL_speaks_101 : decode cL_speaks 101 = .ok (.iconst 1, 1) := by decide +kernel
theorem dL_speaks_102 : decode cL_speaks 102 = .ok (.invokevirtual 66, 3) := by decide +kernel
theorem dL_speaks_105 : decode cL_speaks 105 = .ok (.istore 9, 2) := by decide +kernel
theorem dL_speaks_107 : decode cL_speaks 107 = .ok (.iload_n 3, 1) := by decide +kernel
theorem dL_speaks_108 : decode cL_speaks 108 = .ok (.ifCond .ge 7, 3) := by decide +kernel
theorem dL_speaks_111 : decode cL_speaks 111 = .ok (.iconst 0, 1) := by decide +kernel
theorem dL_speaks_112 : decode cL_speaks 112 = .ok (.goto 9, 3) := by decide +kernel
theorem dL_speaks_115 : decode cL_speaks 115 = .ok (.aload_n 0, 1) := by decide +kernel
theorem dL_speaks_116 : decode cL_speaks 116 = .ok (.iload_n 3, 1) := by decide +kernel
theorem dL_speaks_117 : decode cL_speaks 117 = .ok (.iconst 1, 1) := by decide +kernel
theorem dL_speaks_118 : decode cL_speaks 118 = .ok (.invokevirtual 69, 3) := by decide +kernel
theorem dL_speaks_121 : decode cL_speaks 121 = .ok (.istore 10, 2) := by decide +kernel
theorem dL_speaks_123 : decode cL_speaks 123 = .ok (.bipush 10, 2) := by decide +kernel
theorem dL_speaks_125 : decode cL_speaks 125 = .ok (.newarray .long, 2) := by decide +kernel
theorem dL_speaks_127 : decode cL_speaks 127 = .ok (.astore 11, 2) := by decide +kernel
theorem dL_speaks_129 : decode cL_speaks 129 = .ok (.bipush 10, 2) := by decide +kernel
theorem dL_speaks_131 : decode cL_speaks 131 = .ok (.newarray .int, 2) := by decide +kernel
theorem dL_speaks_133 : decode cL_speaks 133 = .ok (.astore 12, 2) := by decide +kernel
theorem dL_speaks_135 : decode cL_speaks 135 = .ok (.iconst 0, 1) := by decide +kernel
theorem dL_speaks_136 : decode cL_speaks 136 = .ok (.istore 13, 2) := by decide +kernel
theorem dL_speaks_138 : decode cL_speaks 138 = .ok (.iload 13, 2) := by decide +kernel
theorem dL_speaks_140 : decode cL_speaks 140 = .ok (.iload 6, 2) := by decide +kernel
theorem dL_speaks_142 : decode cL_speaks 142 = .ok (.if_icmp .ge 39, 3) := by decide +kernel
theorem dL_speaks_145 : decode cL_speaks 145 = .ok (.aload 11, 2) := by decide +kernel
theorem dL_speaks_147 : decode cL_speaks 147 = .ok (.iload 13, 2) := by decide +kernel
theorem dL_speaks_149 : decode cL_speaks 149 = .ok (.aload_n 0, 1) := by decide +kernel
theorem dL_speaks_150 : decode cL_speaks 150 = .ok (.iload 13, 2) := by decide +kernel
theorem dL_speaks_152 : decode cL_speaks 152 = .ok (.invokestatic 72, 3) := by decide +kernel
theorem dL_speaks_155 : decode cL_speaks 155 = .ok (.lastore, 1) := by decide +kernel
theorem dL_speaks_156 : decode cL_speaks 156 = .ok (.aload 12, 2) := by decide +kernel
theorem dL_speaks_158 : decode cL_speaks 158 = .ok (.iload 13, 2) := by decide +kernel
theorem dL_speaks_160 : decode cL_speaks 160 = .ok (.aload_n 0, 1) := by decide +kernel
theorem dL_speaks_161 : decode cL_speaks 161 = .ok (.iload 13, 2) := by decide +kernel
theorem dL_speaks_163 : decode cL_speaks 163 = .ok (.invokevirtual 37, 3) := by decide +kernel
theorem dL_speaks_166 : decode cL_speaks 166 = .ok (.ifCond .eq 7, 3) := by decide +kernel
theorem dL_speaks_169 : decode cL_speaks 169 = .ok (.iconst 1, 1) := by decide +kernel
theorem dL_speaks_170 : decode cL_speaks 170 = .ok (.goto 4, 3) := by decide +kernel
theorem dL_speaks_173 : decode cL_speaks 173 = .ok (.iconst 0, 1) := by decide +kernel
theorem dL_speaks_174 : decode cL_speaks 174 = .ok (.iastore, 1) := by decide +kernel
theorem dL_speaks_175 : decode cL_speaks 175 = .ok (.iinc 13 1, 3) := by decide +kernel
theorem dL_speaks_178 : decode cL_speaks 178 = .ok (.goto (-40), 3) := by decide +kernel
theorem dL_speaks_181 : decode cL_speaks 181 = .ok (.iload_n 3, 1) := by decide +kernel
theorem dL_speaks_182 : decode cL_speaks 182 = .ok (.ifCond .lt 16, 3) := by decide +kernel
theorem dL_speaks_185 : decode cL_speaks 185 = .ok (.aload_n 0, 1) := by decide +kernel
theorem dL_speaks_186 : decode cL_speaks 186 = .ok (.iload_n 3, 1) := by decide +kernel
theorem dL_speaks_187 : decode cL_speaks 187 = .ok (.invokevirtual 11, 3) := by decide +kernel
theorem dL_speaks_190 : decode cL_speaks 190 = .ok (.iconst 1, 1) := by decide +kernel
theorem dL_speaks_191 : decode cL_speaks 191 = .ok (.if_icmp .ne 7, 3) := by decide +kernel
theorem dL_speaks_194 : decode cL_speaks 194 = .ok (.iconst 1, 1) := by decide +kernel
theorem dL_speaks_195 : decode cL_speaks 195 = .ok (.goto 4, 3) := by decide +kernel
theorem dL_speaks_198 : decode cL_speaks 198 = .ok (.iconst 0, 1) := by decide +kernel
theorem dL_speaks_199 : decode cL_speaks 199 = .ok (.istore 13, 2) := by decide +kernel
theorem dL_speaks_201 : decode cL_speaks 201 = .ok (.aload_n 0, 1) := by decide +kernel
theorem dL_speaks_202 : decode cL_speaks 202 = .ok (.iload_n 1, 1) := by decide +kernel
theorem dL_speaks_203 : decode cL_speaks 203 = .ok (.invokevirtual 76, 3) := by decide +kernel
theorem dL_speaks_206 : decode cL_speaks 206 = .ok (.iload_n 2, 1) := by decide +kernel
theorem dL_speaks_207 : decode cL_speaks 207 = .ok (.if_icmp .ne 96, 3) := by decide +kernel
theorem dL_speaks_210 : decode cL_speaks 210 = .ok (.aload_n 0, 1) := by decide +kernel
theorem dL_speaks_211 : decode cL_speaks 211 = .ok (.invokevirtual 48, 3) := by decide +kernel
theorem dL_speaks_214 : decode cL_speaks 214 = .ok (.iload_n 2, 1) := by decide +kernel
theorem dL_speaks_215 : decode cL_speaks 215 = .ok (.iconst 1, 1) := by decide +kernel
theorem dL_speaks_216 : decode cL_speaks 216 = .ok (.iadd, 1) := by decide +kernel
theorem dL_speaks_217 : decode cL_speaks 217 = .ok (.bipush 32, 2) := by decide +kernel
theorem dL_speaks_219 : decode cL_speaks 219 = .ok (.irem, 1) := by decide +kernel
theorem dL_speaks_220 : decode cL_speaks 220 = .ok (.if_icmp .ne 83, 3) := by decide +kernel
theorem dL_speaks_223 : decode cL_speaks 223 = .ok (.aload_n 0, 1) := by decide +kernel
theorem dL_speaks_224 : decode cL_speaks 224 = .ok (.invokevirtual 60, 3) := by decide +kernel
theorem dL_speaks_227 : decode cL_speaks 227 = .ok (.iload 5, 2) := by decide +kernel
theorem dL_speaks_229 : decode cL_speaks 229 = .ok (.iconst 1, 1) := by decide +kernel
theorem dL_speaks_230 : decode cL_speaks 230 = .ok (.iadd, 1) := by decide +kernel
theorem dL_speaks_231 : decode cL_speaks 231 = .ok (.if_icmp .ne 72, 3) := by decide +kernel
theorem dL_speaks_234 : decode cL_speaks 234 = .ok (.aload_n 0, 1) := by decide +kernel
theorem dL_speaks_235 : decode cL_speaks 235 = .ok (.invokevirtual 57, 3) := by decide +kernel
theorem dL_speaks_238 : decode cL_speaks 238 = .ok (.iload 4, 2) := by decide +kernel
theorem dL_speaks_240 : decode cL_speaks 240 = .ok (.iload 9, 2) := by decide +kernel
theorem dL_speaks_242 : decode cL_speaks 242 = .ok (.iadd, 1) := by decide +kernel
theorem dL_speaks_243 : decode cL_speaks 243 = .ok (.if_icmp .ne 60, 3) := by decide +kernel
theorem dL_speaks_246 : decode cL_speaks 246 = .ok (.iload 9, 2) := by decide +kernel
theorem dL_speaks_248 : decode cL_speaks 248 = .ok (.iload 13, 2) := by decide +kernel
theorem dL_speaks_250 : decode cL_speaks 250 = .ok (.ifCond .eq 7, 3) := by decide +kernel
theorem dL_speaks_253 : decode cL_speaks 253 = .ok (.iconst 1, 1) := by decide +kernel
theorem dL_speaks_254 : decode cL_speaks 254 = .ok (.goto 4, 3) := by decide +kernel
theorem dL_speaks_257 : decode cL_speaks 257 = .ok (.iconst 0, 1) := by decide +kernel
theorem dL_speaks_258 : decode cL_speaks 258 = .ok (.if_icmp .ne 45, 3) := by decide +kernel
theorem dL_speaks_261 : decode cL_speaks 261 = .ok (.iload 10, 2) := by decide +kernel
theorem dL_speaks_263 : decode cL_speaks 263 = .ok (.iload_n 3, 1) := by decide +kernel
theorem dL_speaks_264 : decode cL_speaks 264 = .ok (.ifCond .ge 7, 3) := by decide +kernel
theorem dL_speaks_267 : decode cL_speaks 267 = .ok (.iconst 0, 1) := by decide +kernel
theorem dL_speaks_268 : decode cL_speaks 268 = .ok (.goto 4, 3) := by decide +kernel
theorem dL_speaks_271 : decode cL_speaks 271 = .ok (.iconst 1, 1) := by decide +kernel
theorem dL_speaks_272 : decode cL_speaks 272 = .ok (.if_icmp .ne 31, 3) := by decide +kernel
theorem dL_speaks_275 : decode cL_speaks 275 = .ok (.aload_n 0, 1) := by decide +kernel
theorem dL_speaks_276 : decode cL_speaks 276 = .ok (.invokevirtual 63, 3) := by decide +kernel
theorem dL_speaks_279 : decode cL_speaks 279 = .ok (.iload 6, 2) := by decide +kernel
theorem dL_speaks_281 : decode cL_speaks 281 = .ok (.iload 9, 2) := by decide +kernel
theorem dL_speaks_283 : decode cL_speaks 283 = .ok (.isub, 1) := by decide +kernel
theorem dL_speaks_284 : decode cL_speaks 284 = .ok (.if_icmp .ne 19, 3) := by decide +kernel
theorem dL_speaks_287 : decode cL_speaks 287 = .ok (.aload_n 0, 1) := by decide +kernel
theorem dL_speaks_288 : decode cL_speaks 288 = .ok (.iload_n 2, 1) := by decide +kernel
theorem dL_speaks_289 : decode cL_speaks 289 = .ok (.invokevirtual 30, 3) := by decide +kernel
theorem dL_speaks_292 : decode cL_speaks 292 = .ok (.aload_n 0, 1) := by decide +kernel
theorem dL_speaks_293 : decode cL_speaks 293 = .ok (.invokevirtual 33, 3) := by decide +kernel
theorem dL_speaks_296 : decode cL_speaks 296 = .ok (.if_icmp .ne 7, 3) := by decide +kernel
theorem dL_speaks_299 : decode cL_speaks 299 = .ok (.iconst 1, 1) := by decide +kernel
theorem dL_speaks_300 : decode cL_speaks 300 = .ok (.goto 4, 3) := by decide +kernel
theorem dL_speaks_303 : decode cL_speaks 303 = .ok (.iconst 0, 1) := by decide +kernel
theorem dL_speaks_304 : decode cL_speaks 304 = .ok (.istore 14, 2) := by decide +kernel
theorem dL_speaks_306 : decode cL_speaks 306 = .ok (.iconst 0, 1) := by decide +kernel
theorem dL_speaks_307 : decode cL_speaks 307 = .ok (.istore 15, 2) := by decide +kernel
theorem dL_speaks_309 : decode cL_speaks 309 = .ok (.iload 15, 2) := by decide +kernel
theorem dL_speaks_311 : decode cL_speaks 311 = .ok (.iload 6, 2) := by decide +kernel
theorem dL_speaks_313 : decode cL_speaks 313 = .ok (.if_icmp .ge 94, 3) := by decide +kernel
theorem dL_speaks_316 : decode cL_speaks 316 = .ok (.iload 13, 2) := by decide +kernel
theorem dL_speaks_318 : decode cL_speaks 318 = .ok (.ifCond .eq 16, 3) := by decide +kernel
theorem dL_speaks_321 : decode cL_speaks 321 = .ok (.iload 15, 2) := by decide +kernel
theorem dL_speaks_323 : decode cL_speaks 323 = .ok (.iload_n 3, 1) := by decide +kernel
theorem dL_speaks_324 : decode cL_speaks 324 = .ok (.if_icmp .le 10, 3) := by decide +kernel
theorem dL_speaks_327 : decode cL_speaks 327 = .ok (.iload 15, 2) := by decide +kernel
theorem dL_speaks_329 : decode cL_speaks 329 = .ok (.iconst 1, 1) := by decide +kernel
theorem dL_speaks_330 : decode cL_speaks 330 = .ok (.isub, 1) := by decide +kernel
theorem dL_speaks_331 : decode cL_speaks 331 = .ok (.goto 5, 3) := by decide +kernel
theorem dL_speaks_334 : decode cL_speaks 334 = .ok (.iload 15, 2) := by decide +kernel
theorem dL_speaks_336 : decode cL_speaks 336 = .ok (.istore 16, 2) := by decide +kernel
theorem dL_speaks_338 : decode cL_speaks 338 = .ok (.iload 14, 2) := by decide +kernel
theorem dL_speaks_340 : decode cL_speaks 340 = .ok (.ifCond .eq 58, 3) := by decide +kernel
theorem dL_speaks_343 : decode cL_speaks 343 = .ok (.iload 15, 2) := by decide +kernel
theorem dL_speaks_345 : decode cL_speaks 345 = .ok (.iload 7, 2) := by decide +kernel
theorem dL_speaks_347 : decode cL_speaks 347 = .ok (.if_icmp .eq 47, 3) := by decide +kernel
theorem dL_speaks_350 : decode cL_speaks 350 = .ok (.iload 15, 2) := by decide +kernel
theorem dL_speaks_352 : decode cL_speaks 352 = .ok (.iload_n 3, 1) := by decide +kernel
theorem dL_speaks_353 : decode cL_speaks 353 = .ok (.if_icmp .eq 41, 3) := by decide +kernel
theorem dL_speaks_356 : decode cL_speaks 356 = .ok (.aload_n 0, 1) := by decide +kernel
theorem dL_speaks_357 : decode cL_speaks 357 = .ok (.iload 16, 2) := by decide +kernel
theorem dL_speaks_359 : decode cL_speaks 359 = .ok (.invokestatic 72, 3) := by decide +kernel
theorem dL_speaks_362 : decode cL_speaks 362 = .ok (.aload 11, 2) := by decide +kernel
theorem dL_speaks_364 : decode cL_speaks 364 = .ok (.iload 15, 2) := by decide +kernel
theorem dL_speaks_366 : decode cL_speaks 366 = .ok (.laload, 1) := by decide +kernel
theorem dL_speaks_367 : decode cL_speaks 367 = .ok (.lcmp, 1) := by decide +kernel
theorem dL_speaks_368 : decode cL_speaks 368 = .ok (.ifCond .ne 30, 3) := by decide +kernel
theorem dL_speaks_371 : decode cL_speaks 371 = .ok (.aload_n 0, 1) := by decide +kernel
theorem dL_speaks_372 : decode cL_speaks 372 = .ok (.iload 16, 2) := by decide +kernel
theorem dL_speaks_374 : decode cL_speaks 374 = .ok (.invokevirtual 37, 3) := by decide +kernel
theorem dL_speaks_377 : decode cL_speaks 377 = .ok (.aload 12, 2) := by decide +kernel
theorem dL_speaks_379 : decode cL_speaks 379 = .ok (.iload 15, 2) := by decide +kernel
theorem dL_speaks_381 : decode cL_speaks 381 = .ok (.iaload, 1) := by decide +kernel
theorem dL_speaks_382 : decode cL_speaks 382 = .ok (.iconst 1, 1) := by decide +kernel
theorem dL_speaks_383 : decode cL_speaks 383 = .ok (.if_icmp .ne 7, 3) := by decide +kernel
theorem dL_speaks_386 : decode cL_speaks 386 = .ok (.iconst 1, 1) := by decide +kernel
theorem dL_speaks_387 : decode cL_speaks 387 = .ok (.goto 4, 3) := by decide +kernel
theorem dL_speaks_390 : decode cL_speaks 390 = .ok (.iconst 0, 1) := by decide +kernel
theorem dL_speaks_391 : decode cL_speaks 391 = .ok (.if_icmp .ne 7, 3) := by decide +kernel
theorem dL_speaks_394 : decode cL_speaks 394 = .ok (.iconst 1, 1) := by decide +kernel
theorem dL_speaks_395 : decode cL_speaks 395 = .ok (.goto 4, 3) := by decide +kernel
theorem dL_speaks_398 : decode cL_speaks 398 = .ok (.iconst 0, 1) := by decide +kernel
theorem dL_speaks_399 : decode cL_speaks 399 = .ok (.istore 14, 2) := by decide +kernel
theorem dL_speaks_401 : decode cL_speaks 401 = .ok (.iinc 15 1, 3) := by decide +kernel
theorem dL_speaks_404 : decode cL_speaks 404 = .ok (.goto (-95), 3) := by decide +kernel
theorem dL_speaks_407 : decode cL_speaks 407 = .ok (.aload_n 0, 1) := by decide +kernel
theorem dL_speaks_408 : decode cL_speaks 408 = .ok (.invokevirtual 33, 3) := by decide +kernel
theorem dL_speaks_411 : decode cL_speaks 411 = .ok (.istore 15, 2) := by decide +kernel
theorem dL_speaks_413 : decode cL_speaks 413 = .ok (.iload 14, 2) := by decide +kernel
theorem dL_speaks_415 : decode cL_speaks 415 = .ok (.ifCond .eq 56, 3) := by decide +kernel
theorem dL_speaks_418 : decode cL_speaks 418 = .ok (.aload_n 0, 1) := by decide +kernel
theorem dL_speaks_419 : decode cL_speaks 419 = .ok (.iload 15, 2) := by decide +kernel
theorem dL_speaks_421 : decode cL_speaks 421 = .ok (.invokevirtual 11, 3) := by decide +kernel
theorem dL_speaks_424 : decode cL_speaks 424 = .ok (.iload 8, 2) := by decide +kernel
theorem dL_speaks_426 : decode cL_speaks 426 = .ok (.iconst 1, 1) := by decide +kernel
theorem dL_speaks_427 : decode cL_speaks 427 = .ok (.iadd, 1) := by decide +kernel
theorem dL_speaks_428 : decode cL_speaks 428 = .ok (.if_icmp .ne 43, 3) := by decide +kernel
theorem dL_speaks_431 : decode cL_speaks 431 = .ok (.aload_n 0, 1) := by decide +kernel
theorem dL_speaks_432 : decode cL_speaks 432 = .ok (.iload 15, 2) := by decide +kernel
theorem dL_speaks_434 : decode cL_speaks 434 = .ok (.iload 8, 2) := by decide +kernel
theorem dL_speaks_436 : decode cL_speaks 436 = .ok (.invokevirtual 24, 3) := by decide +kernel
theorem dL_speaks_439 : decode cL_speaks 439 = .ok (.iload_n 1, 1) := by decide +kernel
theorem dL_speaks_440 : decode cL_speaks 440 = .ok (.if_icmp .ne 31, 3) := by decide +kernel
theorem dL_speaks_443 : decode cL_speaks 443 = .ok (.aload_n 0, 1) := by decide +kernel
theorem dL_speaks_444 : decode cL_speaks 444 = .ok (.iload 15, 2) := by decide +kernel
theorem dL_speaks_446 : decode cL_speaks 446 = .ok (.iload 8, 2) := by decide +kernel
theorem dL_speaks_448 : decode cL_speaks 448 = .ok (.invokevirtual 27, 3) := by decide +kernel
theorem dL_speaks_451 : decode cL_speaks 451 = .ok (.iload_n 1, 1) := by decide +kernel
theorem dL_speaks_452 : decode cL_speaks 452 = .ok (.if_icmp .ne 19, 3) := by decide +kernel
theorem dL_speaks_455 : decode cL_speaks 455 = .ok (.aload_n 0, 1) := by decide +kernel
theorem dL_speaks_456 : decode cL_speaks 456 = .ok (.iload 15, 2) := by decide +kernel
theorem dL_speaks_458 : decode cL_speaks 458 = .ok (.iload 8, 2) := by decide +kernel
theorem dL_speaks_460 : decode cL_speaks 460 = .ok (.invokevirtual 20, 3) := by decide +kernel
theorem dL_speaks_463 : decode cL_speaks 463 = .ok (.iload_n 2, 1) := by decide +kernel
theorem dL_speaks_464 : decode cL_speaks 464 = .ok (.if_icmp .ne 7, 3) := by decide +kernel
theorem dL_speaks_467 : decode cL_speaks 467 = .ok (.iconst 1, 1) := by decide +kernel
theorem dL_speaks_468 : decode cL_speaks 468 = .ok (.goto 4, 3) := by decide +kernel
theorem dL_speaks_471 : decode cL_speaks 471 = .ok (.iconst 0, 1) := by decide +kernel
theorem dL_speaks_472 : decode cL_speaks 472 = .ok (.ireturn, 1) := by decide +kernel
theorem dL_acts_0 : decode cL_acts 0 = .ok (.aload_n 0, 1) := by decide +kernel
theorem dL_acts_1 : decode cL_acts 1 = .ok (.invokevirtual 63, 3) := by decide +kernel
theorem dL_acts_4 : decode cL_acts 4 = .ok (.istore_n 3, 1) := by decide +kernel
theorem dL_acts_5 : decode cL_acts 5 = .ok (.aload_n 0, 1) := by decide +kernel
theorem dL_acts_6 : decode cL_acts 6 = .ok (.invokevirtual 33, 3) := by decide +kernel
theorem dL_acts_9 : decode cL_acts 9 = .ok (.istore 4, 2) := by decide +kernel
theorem dL_acts_11 : decode cL_acts 11 = .ok (.iload 4, 2) := by decide +kernel
theorem dL_acts_13 : decode cL_acts 13 = .ok (.ifCond .lt 16, 3) := by decide +kernel
theorem dL_acts_16 : decode cL_acts 16 = .ok (.aload_n 0, 1) := by decide +kernel
theorem dL_acts_17 : decode cL_acts 17 = .ok (.iload 4, 2) := by decide +kernel
theorem dL_acts_19 : decode cL_acts 19 = .ok (.invokevirtual 11, 3) := by decide +kernel
theorem dL_acts_22 : decode cL_acts 22 = .ok (.ifCond .ne 7, 3) := by decide +kernel
theorem dL_acts_25 : decode cL_acts 25 = .ok (.iconst 1, 1) := by decide +kernel
theorem dL_acts_26 : decode cL_acts 26 = .ok (.goto 4, 3) := by decide +kernel
theorem dL_acts_29 : decode cL_acts 29 = .ok (.iconst 0, 1) := by decide +kernel
theorem dL_acts_30 : decode cL_acts 30 = .ok (.istore 5, 2) := by decide +kernel
theorem dL_acts_32 : decode cL_acts 32 = .ok (.iload_n 3, 1) := by decide +kernel
theorem dL_acts_33 : decode cL_acts 33 = .ok (.ifCond .ne 47, 3) := by decide +kernel
theorem dL_acts_36 : decode cL_acts 36 = .ok (.aload_n 0, 1) := by decide +kernel
theorem dL_acts_37 : decode cL_acts 37 = .ok (.invokevirtual 79, 3) := by decide +kernel
theorem dL_acts_40 : decode cL_acts 40 = .ok (.ifCond .ne 38, 3) := by decide +kernel
theorem dL_acts_43 : decode cL_acts 43 = .ok (.aload_n 0, 1) := by decide +kernel
theorem dL_acts_44 : decode cL_acts 44 = .ok (.invokevirtual 33, 3) := by decide +kernel
theorem dL_acts_47 : decode cL_acts 47 = .ok (.ifCond .ne 31, 3) := by decide +kernel
theorem dL_acts_50 : decode cL_acts 50 = .ok (.aload_n 0, 1) := by decide +kernel
theorem dL_acts_51 : decode cL_acts 51 = .ok (.invokevirtual 63, 3) := by decide +kernel
theorem dL_acts_54 : decode cL_acts 54 = .ok (.iconst 1, 1) := by decide +kernel
theorem dL_acts_55 : decode cL_acts 55 = .ok (.if_icmp .ne 23, 3) := by decide +kernel
theorem dL_acts_58 : decode cL_acts 58 = .ok (.aload_n 0, 1) := by decide +kernel
theorem dL_acts_59 : decode cL_acts 59 = .ok (.iconst 0, 1) := by decide +kernel
theorem dL_acts_60 : decode cL_acts 60 = .ok (.invokevirtual 11, 3) := by decide +kernel
theorem dL_acts_63 : decode cL_acts 63 = .ok (.ifCond .ne 15, 3) := by decide +kernel
theorem dL_acts_66 : decode cL_acts 66 = .ok (.aload_n 0, 1) := by decide +kernel
theorem dL_acts_67 : decode cL_acts 67 = .ok (.iconst 0, 1) := by decide +kernel
theorem dL_acts_68 : decode cL_acts 68 = .ok (.invokevirtual 37, 3) := by decide +kernel
theorem dL_acts_71 : decode cL_acts 71 = .ok (.ifCond .ne 7, 3) := by decide +kernel
theorem dL_acts_74 : decode cL_acts 74 = .ok (.iconst 1, 1) := by decide +kernel
theorem dL_acts_75 : decode cL_acts 75 = .ok (.goto 4, 3) := by decide +kernel
theorem dL_acts_78 : decode cL_acts 78 = .ok (.iconst 0, 1) := by decide +kernel
theorem dL_acts_79 : decode cL_acts 79 = .ok (.ireturn, 1) := by decide +kernel
theorem dL_acts_80 : decode cL_acts 80 = .ok (.iload_n 2, 1) := by decide +kernel
theorem dL_acts_81 : decode cL_acts 81 = .ok (.iload_n 3, 1) := by decide +kernel
theorem dL_acts_82 : decode cL_acts 82 = .ok (.invokestatic 82, 3) := by decide +kernel
theorem dL_acts_85 : decode cL_acts 85 = .ok (.istore 6, 2) := by decide +kernel
theorem dL_acts_87 : decode cL_acts 87 = .ok (.aload_n 0, 1) := by decide +kernel
theorem dL_acts_88 : decode cL_acts 88 = .ok (.invokevirtual 85, 3) := by decide +kernel
theorem dL_acts_91 : decode cL_acts 91 = .ok (.istore 7, 2) := by decide +kernel
theorem dL_acts_93 : decode cL_acts 93 = .ok (.aload_n 0, 1) := by decide +kernel
theorem dL_acts_94 : decode cL_acts 94 = .ok (.iload 6, 2) := by decide +kernel
theorem dL_acts_96 : decode cL_acts 96 = .ok (.invokevirtual 11, 3) := by decide +kernel
theorem dL_acts_99 : decode cL_acts 99 = .ok (.istore 8, 2) := by decide +kernel
theorem dL_acts_101 : decode cL_acts 101 = .ok (.aload_n 0, 1) := by decide +kernel
theorem dL_acts_102 : decode cL_acts 102 = .ok (.iload 6, 2) := by decide +kernel
theorem dL_acts_104 : decode cL_acts 104 = .ok (.invokevirtual 37, 3) := by decide +kernel
theorem dL_acts_107 : decode cL_acts 107 = .ok (.istore 9, 2) := by decide +kernel
theorem dL_acts_109 : decode cL_acts 109 = .ok (.iload_n 1, 1) := by decide +kernel
theorem dL_acts_110 : decode cL_acts 110 = .ok (.bipush 16, 2) := by decide +kernel
theorem dL_acts_112 : decode cL_acts 112 = .ok (.invokestatic 82, 3) := by decide +kernel
theorem dL_acts_115 : decode cL_acts 115 = .ok (.tableswitch 747 0 9 #[53, 53, 166, 237, 291, 377, 447, 480, 558, 629], 53) := by decide +kernel
theorem dL_acts_168 : decode cL_acts 168 = .ok (.iload_n 3, 1) := by decide +kernel
theorem dL_acts_169 : decode cL_acts 169 = .ok (.bipush 10, 2) := by decide +kernel
theorem dL_acts_171 : decode cL_acts 171 = .ok (.if_icmp .ne 61, 3) := by decide +kernel
theorem dL_acts_174 : decode cL_acts 174 = .ok (.iload 5, 2) := by decide +kernel
theorem dL_acts_176 : decode cL_acts 176 = .ok (.ifCond .ne 56, 3) := by decide +kernel
theorem dL_acts_179 : decode cL_acts 179 = .ok (.iload 9, 2) := by decide +kernel
theorem dL_acts_181 : decode cL_acts 181 = .ok (.ifCond .eq 13, 3) := by decide +kernel
theorem dL_acts_184 : decode cL_acts 184 = .ok (.aload_n 0, 1) := by decide +kernel
theorem dL_acts_185 : decode cL_acts 185 = .ok (.iload 6, 2) := by decide +kernel
theorem dL_acts_187 : decode cL_acts 187 = .ok (.iconst 0, 1) := by decide +kernel
theorem dL_acts_188 : decode cL_acts 188 = .ok (.invokevirtual 44, 3) := by decide +kernel
theorem dL_acts_191 : decode cL_acts 191 = .ok (.goto 40, 3) := by decide +kernel
theorem dL_acts_194 : decode cL_acts 194 = .ok (.aload_n 0, 1) := by decide +kernel
theorem dL_acts_195 : decode cL_acts 195 = .ok (.iload 6, 2) := by decide +kernel
theorem dL_acts_197 : decode cL_acts 197 = .ok (.invokevirtual 88, 3) := by decide +kernel
theorem dL_acts_200 : decode cL_acts 200 = .ok (.iload 8, 2) := by decide +kernel
theorem dL_acts_202 : decode cL_acts 202 = .ok (.if_icmp .ne 28, 3) := by decide +kernel
theorem dL_acts_205 : decode cL_acts 205 = .ok (.aload_n 0, 1) := by decide +kernel
theorem dL_acts_206 : decode cL_acts 206 = .ok (.invokevirtual 85, 3) := by decide +kernel
theorem dL_acts_209 : decode cL_acts 209 = .ok (.iload 7, 2) := by decide +kernel
theorem dL_acts_211 : decode cL_acts 211 = .ok (.iload 8, 2) := by decide +kernel
theorem dL_acts_213 : decode cL_acts 213 = .ok (.iadd, 1) := by decide +kernel
theorem dL_acts_214 : decode cL_acts 214 = .ok (.if_icmp .ne 16, 3) := by decide +kernel
theorem dL_acts_217 : decode cL_acts 217 = .ok (.aload_n 0, 1) := by decide +kernel
theorem dL_acts_218 : decode cL_acts 218 = .ok (.invokevirtual 63, 3) := by decide +kernel
theorem dL_acts_221 : decode cL_acts 221 = .ok (.bipush 9, 2) := by decide +kernel
theorem dL_acts_223 : decode cL_acts 223 = .ok (.if_icmp .ne 7, 3) := by decide +kernel
theorem dL_acts_226 : decode cL_acts 226 = .ok (.iconst 1, 1) := by decide +kernel
theorem dL_acts_227 : decode cL_acts 227 = .ok (.goto 4, 3) := by decide +kernel
theorem dL_acts_230 : decode cL_acts 230 = .ok (.iconst 0, 1) := by decide +kernel
theorem dL_acts_231 : decode cL_acts 231 = .ok (.ireturn, 1) := by decide +kernel
theorem dL_acts_232 : decode cL_acts 232 = .ok (.aload_n 0, 1) := by decide +kernel
theorem dL_acts_233 : decode cL_acts 233 = .ok (.invokevirtual 79, 3) := by decide +kernel
theorem dL_acts_236 : decode cL_acts 236 = .ok (.iload 5, 2) := by decide +kernel
theorem dL_acts_238 : decode cL_acts 238 = .ok (.ifCond .eq 9, 3) := by decide +kernel
theorem dL_acts_241 : decode cL_acts 241 = .ok (.iload_n 3, 1) := by decide +kernel
theorem dL_acts_242 : decode cL_acts 242 = .ok (.iconst 1, 1) := by decide +kernel
theorem dL_acts_243 : decode cL_acts 243 = .ok (.isub, 1) := by decide +kernel
theorem dL_acts_244 : decode cL_acts 244 = .ok (.goto 4, 3) := by decide +kernel
theorem dL_acts_247 : decode cL_acts 247 = .ok (.iload_n 3, 1) := by decide +kernel
theorem dL_acts_248 : decode cL_acts 248 = .ok (.if_icmp .ne 31, 3) := by decide +kernel
theorem dL_acts_251 : decode cL_acts 251 = .ok (.aload_n 0, 1) := by decide +kernel
theorem dL_acts_252 : decode cL_acts 252 = .ok (.invokevirtual 33, 3) := by decide +kernel
theorem dL_acts_255 : decode cL_acts 255 = .ok (.aload_n 0, 1) := by decide +kernel
theorem dL_acts_256 : decode cL_acts 256 = .ok (.invokevirtual 63, 3) := by decide +kernel
theorem dL_acts_259 : decode cL_acts 259 = .ok (.iconst 1, 1) := by decide +kernel
theorem dL_acts_260 : decode cL_acts 260 = .ok (.isub, 1) := by decide +kernel
theorem dL_acts_261 : decode cL_acts 261 = .ok (.if_icmp .ne 18, 3) := by decide +kernel
theorem dL_acts_264 : decode cL_acts 264 = .ok (.aload_n 0, 1) := by decide +kernel
theorem dL_acts_265 : decode cL_acts 265 = .ok (.aload_n 0, 1) := by decide +kernel
theorem dL_acts_266 : decode cL_acts 266 = .ok (.invokevirtual 33, 3) := by decide +kernel
theorem dL_acts_269 : decode cL_acts 269 = .ok (.invokevirtual 11, 3) := by decide +kernel
theorem dL_acts_272 : decode cL_acts 272 = .ok (.ifCond .ne 7, 3) := by decide +kernel
theorem dL_acts_275 : decode cL_acts 275 = .ok (.iconst 1, 1) := by decide +kernel
theorem dL_acts_276 : decode cL_acts 276 = .ok (.goto 4, 3) := by decide +kernel
theorem dL_acts_279 : decode cL_acts 279 = .ok (.iconst 0, 1) := by decide +kernel
theorem dL_acts_280 : decode cL_acts 280 = .ok (.ireturn, 1) := by decide +kernel
theorem dL_acts_281 : decode cL_acts 281 = .ok (.iload 4, 2) := by decide +kernel
theorem dL_acts_283 : decode cL_acts 283 = .ok (.ifCond .ge 29, 3) := by decide +kernel
theorem dL_acts_286 : decode cL_acts 286 = .ok (.aload_n 0, 1) := by decide +kernel
theorem dL_acts_287 : decode cL_acts 287 = .ok (.iload 6, 2) := by decide +kernel
theorem dL_acts_289 : decode cL_acts 289 = .ok (.invokevirtual 91, 3) := by decide +kernel
theorem dL_acts_292 : decode cL_acts 292 = .ok (.iload 8, 2) := by decide +kernel
theorem dL_acts_294 : decode cL_acts 294 = .ok (.if_icmp .ne 14, 3) := by decide +kernel
theorem dL_acts_297 : decode cL_acts 297 = .ok (.aload_n 0, 1) := by decide +kernel
theorem dL_acts_298 : decode cL_acts 298 = .ok (.invokevirtual 94, 3) := by decide +kernel
theorem dL_acts_301 : decode cL_acts 301 = .ok (.ifCond .ne 7, 3) := by decide +kernel
theorem dL_acts_304 : decode cL_acts 304 = .ok (.iconst 1, 1) := by decide +kernel
theorem dL_acts_305 : decode cL_acts 305 = .ok (.goto 46, 3) := by decide +kernel
theorem dL_acts_308 : decode cL_acts 308 = .ok (.iconst 0, 1) := by decide +kernel
theorem dL_acts_309 : decode cL_acts 309 = .ok (.goto 42, 3) := by decide +kernel
theorem dL_acts_312 : decode cL_acts 312 = .ok (.aload_n 0, 1) := by decide +kernel
theorem dL_acts_313 : decode cL_acts 313 = .ok (.invokevirtual 97, 3) := by decide +kernel
theorem dL_acts_316 : decode cL_acts 316 = .ok (.ifCond .lt 34, 3) := by decide +kernel
theorem dL_acts_319 : decode cL_acts 319 = .ok (.aload_n 0, 1) := by decide +kernel
theorem dL_acts_320 : decode cL_acts 320 = .ok (.invokevirtual 33, 3) := by decide +kernel
theorem dL_acts_323 : decode cL_acts 323 = .ok (.iconst (-1), 1) := by decide +kernel
theorem dL_acts_324 : decode cL_acts 324 = .ok (.if_icmp .ne 26, 3) := by decide +kernel
theorem dL_acts_327 : decode cL_acts 327 = .ok (.aload_n 0, 1) := by decide +kernel
theorem dL_acts_328 : decode cL_acts 328 = .ok (.invokevirtual 63, 3) := by decide +kernel
theorem dL_acts_331 : decode cL_acts 331 = .ok (.iload 5, 2) := by decide +kernel
theorem dL_acts_333 : decode cL_acts 333 = .ok (.ifCond .eq 9, 3) := by decide +kernel
theorem dL_acts_336 : decode cL_acts 336 = .ok (.iload_n 3, 1) := by decide +kernel
theorem dL_acts_337 : decode cL_acts 337 = .ok (.iconst 1, 1) := by decide +kernel
theorem dL_acts_338 : decode cL_acts 338 = .ok (.isub, 1) := by decide +kernel
theorem dL_acts_339 : decode cL_acts 339 = .ok (.goto 4, 3) := by decide +kernel
theorem dL_acts_342 : decode cL_acts 342 = .ok (.iload_n 3, 1) := by decide +kernel
theorem dL_acts_343 : decode cL_acts 343 = .ok (.if_icmp .ne 7, 3) := by decide +kernel
theorem dL_acts_346 : decode cL_acts 346 = .ok (.iconst 1, 1) := by decide +kernel
theorem dL_acts_347 : decode cL_acts 347 = .ok (.goto 4, 3) := by decide +kernel
theorem dL_acts_350 : decode cL_acts 350 = .ok (.iconst 0, 1) := by decide +kernel
theorem dL_acts_351 : decode cL_acts 351 = .ok (.ireturn, 1) := by decide +kernel
theorem dL_acts_352 : decode cL_acts 352 = .ok (.aload_n 0, 1) := by decide +kernel
theorem dL_acts_353 : decode cL_acts 353 = .ok (.iload 6, 2) := by decide +kernel
theorem dL_acts_355 : decode cL_acts 355 = .ok (.iload_n 2, 1) := by decide +kernel
theorem dL_acts_356 : decode cL_acts 356 = .ok (.bipush 6, 2) := by decide +kernel
theorem dL_acts_358 : decode cL_acts 358 = .ok (.ishr, 1) := by decide +kernel
theorem dL_acts_359 : decode cL_acts 359 = .ok (.iconst 3, 1) := by decide +kernel
theorem dL_acts_360 : decode cL_acts 360 = .ok (.iand, 1) := by decide +kernel
theorem dL_acts_361 : decode cL_acts 361 = .ok (.ifCond .ne 7, 3) := by decide +kernel
theorem dL_acts_364 : decode cL_acts 364 = .ok (.iconst 1, 1) := by decide +kernel
theorem dL_acts_365 : decode cL_acts 365 = .ok (.goto 4, 3) := by decide +kernel
theorem dL_acts_368 : decode cL_acts 368 = .ok (.iconst 0, 1) := by decide +kernel
theorem dL_acts_369 : decode cL_acts 369 = .ok (.invokevirtual 44, 3) := by decide +kernel
theorem dL_acts_372 : decode cL_acts 372 = .ok (.iload 9, 2) := by decide +kernel
theorem dL_acts_374 : decode cL_acts 374 = .ok (.if_icmp .ne 30, 3) := by decide +kernel
theorem dL_acts_377 : decode cL_acts 377 = .ok (.aload_n 0, 1) := by decide +kernel
theorem dL_acts_378 : decode cL_acts 378 = .ok (.iload 6, 2) := by decide +kernel
theorem dL_acts_380 : decode cL_acts 380 = .ok (.invokevirtual 37, 3) := by decide +kernel
theorem dL_acts_383 : decode cL_acts 383 = .ok (.iload_n 2, 1) := by decide +kernel
theorem dL_acts_384 : decode cL_acts 384 = .ok (.bipush 6, 2) := by decide +kernel
theorem dL_acts_386 : decode cL_acts 386 = .ok (.ishr, 1) := by decide +kernel
theorem dL_acts_387 : decode cL_acts 387 = .ok (.iconst 3, 1) := by decide +kernel
theorem dL_acts_388 : decode cL_acts 388 = .ok (.iand, 1) := by decide +kernel
theorem dL_acts_389 : decode cL_acts 389 = .ok (.ifCond .ne 7, 3) := by decide +kernel
theorem dL_acts_392 : decode cL_acts 392 = .ok (.iconst 1, 1) := by decide +kernel
theorem dL_acts_393 : decode cL_acts 393 = .ok (.goto 4, 3) := by decide +kernel
theorem dL_acts_396 : decode cL_acts 396 = .ok (.iconst 0, 1) := by decide +kernel
theorem dL_acts_397 : decode cL_acts 397 = .ok (.if_icmp .ne 7, 3) := by decide +kernel
theorem dL_acts_400 : decode cL_acts 400 = .ok (.iconst 1, 1) := by decide +kernel
theorem dL_acts_401 : decode cL_acts 401 = .ok (.goto 4, 3) := by decide +kernel
theorem dL_acts_404 : decode cL_acts 404 = .ok (.iconst 0, 1) := by decide +kernel
theorem dL_acts_405 : decode cL_acts 405 = .ok (.ireturn, 1) := by decide +kernel
theorem dL_acts_406 : decode cL_acts 406 = .ok (.iload 9, 2) := by decide +kernel
theorem dL_acts_408 : decode cL_acts 408 = .ok (.ifCond .ne 16, 3) := by decide +kernel
theorem dL_acts_411 : decode cL_acts 411 = .ok (.iload_n 2, 1) := by decide +kernel
theorem dL_acts_412 : decode cL_acts 412 = .ok (.bipush 6, 2) := by decide +kernel
theorem dL_acts_414 : decode cL_acts 414 = .ok (.ishr, 1) := by decide +kernel
theorem dL_acts_415 : decode cL_acts 415 = .ok (.iconst 3, 1) := by decide +kernel
theorem dL_acts_416 : decode cL_acts 416 = .ok (.iand, 1) := by decide +kernel
theorem dL_acts_417 : decode cL_acts 417 = .ok (.ifCond .ne 7, 3) := by decide +kernel
theorem dL_acts_420 : decode cL_acts 420 = .ok (.iconst 1, 1) := by decide +kernel
theorem dL_acts_421 : decode cL_acts 421 = .ok (.goto 4, 3) := by decide +kernel
theorem dL_acts_424 : decode cL_acts 424 = .ok (.iconst 0, 1) := by decide +kernel
theorem dL_acts_425 : decode cL_acts 425 = .ok (.istore 10, 2) := by decide +kernel
theorem dL_acts_427 : decode cL_acts 427 = .ok (.iload 10, 2) := by decide +kernel
theorem dL_acts_429 : decode cL_acts 429 = .ok (.ifCond .eq 44, 3) := by decide +kernel
theorem dL_acts_432 : decode cL_acts 432 = .ok (.aload_n 0, 1) := by decide +kernel
theorem dL_acts_433 : decode cL_acts 433 = .ok (.iload 6, 2) := by decide +kernel
theorem dL_acts_435 : decode cL_acts 435 = .ok (.invokevirtual 88, 3) := by decide +kernel
theorem dL_acts_438 : decode cL_acts 438 = .ok (.iload 8, 2) := by decide +kernel
theorem dL_acts_440 : decode cL_acts 440 = .ok (.if_icmp .ne 29, 3) := by decide +kernel
theorem dL_acts_443 : decode cL_acts 443 = .ok (.aload_n 0, 1) := by decide +kernel
theorem dL_acts_444 : decode cL_acts 444 = .ok (.invokevirtual 63, 3) := by decide +kernel
theorem dL_acts_447 : decode cL_acts 447 = .ok (.iload_n 3, 1) := by decide +kernel
theorem dL_acts_448 : decode cL_acts 448 = .ok (.iconst 1, 1) := by decide +kernel
theorem dL_acts_449 : decode cL_acts 449 = .ok (.isub, 1) := by decide +kernel
theorem dL_acts_450 : decode cL_acts 450 = .ok (.if_icmp .ne 19, 3) := by decide +kernel
theorem dL_acts_453 : decode cL_acts 453 = .ok (.aload_n 0, 1) := by decide +kernel
theorem dL_acts_454 : decode cL_acts 454 = .ok (.invokevirtual 85, 3) := by decide +kernel
theorem dL_acts_457 : decode cL_acts 457 = .ok (.iload 7, 2) := by decide +kernel
theorem dL_acts_459 : decode cL_acts 459 = .ok (.iload 8, 2) := by decide +kernel
theorem dL_acts_461 : decode cL_acts 461 = .ok (.iadd, 1) := by decide +kernel
theorem dL_acts_462 : decode cL_acts 462 = .ok (.if_icmp .ne 7, 3) := by decide +kernel
theorem dL_acts_465 : decode cL_acts 465 = .ok (.iconst 1, 1) := by decide +kernel
theorem dL_acts_466 : decode cL_acts 466 = .ok (.goto 25, 3) := by decide +kernel
theorem dL_acts_469 : decode cL_acts 469 = .ok (.iconst 0, 1) := by decide +kernel
theorem dL_acts_470 : decode cL_acts 470 = .ok (.goto 21, 3) := by decide +kernel
theorem dL_acts_473 : decode cL_acts 473 = .ok (.aload_n 0, 1) := by decide +kernel
theorem dL_acts_474 : decode cL_acts 474 = .ok (.iload 6, 2) := by decide +kernel
theorem dL_acts_476 : decode cL_acts 476 = .ok (.iload 9, 2) := by decide +kernel
theorem dL_acts_478 : decode cL_acts 478 = .ok (.invokevirtual 44, 3) := by decide +kernel
theorem dL_acts_481 : decode cL_acts 481 = .ok (.iload 9, 2) := by decide +kernel
theorem dL_acts_483 : decode cL_acts 483 = .ok (.if_icmp .ne 7, 3) := by decide +kernel
theorem dL_acts_486 : decode cL_acts 486 = .ok (.iconst 1, 1) := by decide +kernel
theorem dL_acts_487 : decode cL_acts 487 = .ok (.goto 4, 3) := by decide +kernel
theorem dL_acts_490 : decode cL_acts 490 = .ok (.iconst 0, 1) := by decide +kernel
theorem dL_acts_491 : decode cL_acts 491 = .ok (.ireturn, 1) := by decide +kernel
theorem dL_acts_492 : decode cL_acts 492 = .ok (.aload_n 0, 1) := by decide +kernel
theorem dL_acts_493 : decode cL_acts 493 = .ok (.invokevirtual 48, 3) := by decide +kernel
theorem dL_acts_496 : decode cL_acts 496 = .ok (.istore 11, 2) := by decide +kernel
theorem dL_acts_498 : decode cL_acts 498 = .ok (.iload 4, 2) := by decide +kernel
theorem dL_acts_500 : decode cL_acts 500 = .ok (.ifCond .ge 43, 3) := by decide +kernel
theorem dL_acts_503 : decode cL_acts 503 = .ok (.aload_n 0, 1) := by decide +kernel
theorem dL_acts_504 : decode cL_acts 504 = .ok (.iload_n 2, 1) := by decide +kernel
theorem dL_acts_505 : decode cL_acts 505 = .ok (.iconst 4, 1) := by decide +kernel
theorem dL_acts_506 : decode cL_acts 506 = .ok (.ishr, 1) := by decide +kernel
theorem dL_acts_507 : decode cL_acts 507 = .ok (.bipush 32, 2) := by decide +kernel
theorem dL_acts_509 : decode cL_acts 509 = .ok (.invokestatic 82, 3) := by decide +kernel
theorem dL_acts_512 : decode cL_acts 512 = .ok (.invokevirtual 100, 3) := by decide +kernel
theorem dL_acts_515 : decode cL_acts 515 = .ok (.iload 11, 2) := by decide +kernel
theorem dL_acts_517 : decode cL_acts 517 = .ok (.if_icmp .ne 22, 3) := by decide +kernel
theorem dL_acts_520 : decode cL_acts 520 = .ok (.aload_n 0, 1) := by decide +kernel
theorem dL_acts_521 : decode cL_acts 521 = .ok (.invokevirtual 48, 3) := by decide +kernel
theorem dL_acts_524 : decode cL_acts 524 = .ok (.iload_n 2, 1) := by decide +kernel
theorem dL_acts_525 : decode cL_acts 525 = .ok (.iconst 4, 1) := by decide +kernel
theorem dL_acts_526 : decode cL_acts 526 = .ok (.ishr, 1) := by decide +kernel
theorem dL_acts_527 : decode cL_acts 527 = .ok (.bipush 32, 2) := by decide +kernel
theorem dL_acts_529 : decode cL_acts 529 = .ok (.invokestatic 82, 3) := by decide +kernel
theorem dL_acts_532 : decode cL_acts 532 = .ok (.if_icmp .ne 7, 3) := by decide +kernel
theorem dL_acts_535 : decode cL_acts 535 = .ok (.iconst 1, 1) := by decide +kernel
theorem dL_acts_536 : decode cL_acts 536 = .ok (.goto 25, 3) := by decide +kernel
theorem dL_acts_539 : decode cL_acts 539 = .ok (.iconst 0, 1) := by decide +kernel
theorem dL_acts_540 : decode cL_acts 540 = .ok (.goto 21, 3) := by decide +kernel
theorem dL_acts_543 : decode cL_acts 543 = .ok (.aload_n 0, 1) := by decide +kernel
theorem dL_acts_544 : decode cL_acts 544 = .ok (.iload 6, 2) := by decide +kernel
theorem dL_acts_546 : decode cL_acts 546 = .ok (.iload 9, 2) := by decide +kernel
theorem dL_acts_548 : decode cL_acts 548 = .ok (.invokevirtual 44, 3) := by decide +kernel
theorem dL_acts_551 : decode cL_acts 551 = .ok (.iload 9, 2) := by decide +kernel
theorem dL_acts_553 : decode cL_acts 553 = .ok (.if_icmp .ne 7, 3) := by decide +kernel
theorem dL_acts_556 : decode cL_acts 556 = .ok (.iconst 1, 1) := by decide +kernel
theorem dL_acts_557 : decode cL_acts 557 = .ok (.goto 4, 3) := by decide +kernel
theorem dL_acts_560 : decode cL_acts 560 = .ok (.iconst 0, 1) := by decide +kernel
theorem dL_acts_561 : decode cL_acts 561 = .ok (.ireturn, 1) := by decide +kernel
theorem dL_acts_562 : decode cL_acts 562 = .ok (.aload_n 0, 1) := by decide +kernel
theorem dL_acts_563 : decode cL_acts 563 = .ok (.iload 6, 2) := by decide +kernel
theorem dL_acts_565 : decode cL_acts 565 = .ok (.invokevirtual 91, 3) := by decide +kernel
theorem dL_acts_568 : decode cL_acts 568 = .ok (.iload 8, 2) := by decide +kernel
theorem dL_acts_570 : decode cL_acts 570 = .ok (.if_icmp .ne 23, 3) := by decide +kernel
theorem dL_acts_573 : decode cL_acts 573 = .ok (.aload_n 0, 1) := by decide +kernel
theorem dL_acts_574 : decode cL_acts 574 = .ok (.invokevirtual 103, 3) := by decide +kernel
theorem dL_acts_577 : decode cL_acts 577 = .ok (.iload 6, 2) := by decide +kernel
theorem dL_acts_579 : decode cL_acts 579 = .ok (.if_icmp .ne 14, 3) := by decide +kernel
theorem dL_acts_582 : decode cL_acts 582 = .ok (.aload_n 0, 1) := by decide +kernel
theorem dL_acts_583 : decode cL_acts 583 = .ok (.invokevirtual 94, 3) := by decide +kernel
theorem dL_acts_586 : decode cL_acts 586 = .ok (.ifCond .ne 7, 3) := by decide +kernel
theorem dL_acts_589 : decode cL_acts 589 = .ok (.iconst 1, 1) := by decide +kernel
theorem dL_acts_590 : decode cL_acts 590 = .ok (.goto 4, 3) := by decide +kernel
theorem dL_acts_593 : decode cL_acts 593 = .ok (.iconst 0, 1) := by decide +kernel
theorem dL_acts_594 : decode cL_acts 594 = .ok (.ireturn, 1) := by decide +kernel
theorem dL_acts_595 : decode cL_acts 595 = .ok (.aload_n 0, 1) := by decide +kernel
theorem dL_acts_596 : decode cL_acts 596 = .ok (.invokevirtual 103, 3) := by decide +kernel
theorem dL_acts_599 : decode cL_acts 599 = .ok (.ifCond .ge 20, 3) := by decide +kernel
theorem dL_acts_602 : decode cL_acts 602 = .ok (.aload_n 0, 1) := by decide +kernel
theorem dL_acts_603 : decode cL_acts 603 = .ok (.iload 6, 2) := by decide +kernel
theorem dL_acts_605 : decode cL_acts 605 = .ok (.invokevirtual 91, 3) := by decide +kernel
theorem dL_acts_608 : decode cL_acts 608 = .ok (.iload 8, 2) := by decide +kernel
theorem dL_acts_610 : decode cL_acts 610 = .ok (.if_icmp .ne 7, 3) := by decide +kernel
theorem dL_acts_613 : decode cL_acts 613 = .ok (.iconst 1, 1) := by decide +kernel
theorem dL_acts_614 : decode cL_acts 614 = .ok (.goto 4, 3) := by decide +kernel
theorem dL_acts_617 : decode cL_acts 617 = .ok (.iconst 0, 1) := by decide +kernel
theorem dL_acts_618 : decode cL_acts 618 = .ok (.ireturn, 1) := by decide +kernel
theorem dL_acts_619 : decode cL_acts 619 = .ok (.aload_n 0, 1) := by decide +kernel
theorem dL_acts_620 : decode cL_acts 620 = .ok (.invokevirtual 94, 3) := by decide +kernel
theorem dL_acts_623 : decode cL_acts 623 = .ok (.istore 12, 2) := by decide +kernel
theorem dL_acts_625 : decode cL_acts 625 = .ok (.aload_n 0, 1) := by decide +kernel
theorem dL_acts_626 : decode cL_acts 626 = .ok (.aload_n 0, 1) := by decide +kernel
theorem dL_acts_627 : decode cL_acts 627 = .ok (.invokevirtual 103, 3) := by decide +kernel
theorem dL_acts_630 : decode cL_acts 630 = .ok (.iload 12, 2) := by decide +kernel
theorem dL_acts_632 : decode cL_acts 632 = .ok (.invokevirtual 24, 3) := by decide +kernel
theorem dL_acts_635 : decode cL_acts 635 = .ok (.istore 13, 2) := by decide +kernel
theorem dL_acts_637 : decode cL_acts 637 = .ok (.aload_n 0, 1) := by decide +kernel
theorem dL_acts_638 : decode cL_acts 638 = .ok (.invokevirtual 106, 3) := by decide +kernel
theorem dL_acts_641 : decode cL_acts 641 = .ok (.iload 13, 2) := by decide +kernel
theorem dL_acts_643 : decode cL_acts 643 = .ok (.if_icmp .ne 28, 3) := by decide +kernel
theorem dL_acts_646 : decode cL_acts 646 = .ok (.aload_n 0, 1) := by decide +kernel
theorem dL_acts_647 : decode cL_acts 647 = .ok (.invokevirtual 94, 3) := by decide +kernel
theorem dL_acts_650 : decode cL_acts 650 = .ok (.iload 13, 2) := by decide +kernel
theorem dL_acts_652 : decode cL_acts 652 = .ok (.ifCond .ge 8, 3) := by decide +kernel
theorem dL_acts_655 : decode cL_acts 655 = .ok (.iload 12, 2) := by decide +kernel
theorem dL_acts_657 : decode cL_acts 657 = .ok (.goto 7, 3) := by decide +kernel
theorem dL_acts_660 : decode cL_acts 660 = .ok (.iload 12, 2) := by decide +kernel
theorem dL_acts_662 : decode cL_acts 662 = .ok (.iconst 1, 1) := by decide +kernel
theorem dL_acts_663 : decode cL_acts 663 = .ok (.iadd, 1) := by decide +kernel
theorem dL_acts_664 : decode cL_acts 664 = .ok (.if_icmp .ne 7, 3) := by decide +kernel
theorem dL_acts_667 : decode cL_acts 667 = .ok (.iconst 1, 1) := by decide +kernel
theorem dL_acts_668 : decode cL_acts 668 = .ok (.goto 4, 3) := by decide +kernel
theorem dL_acts_671 : decode cL_acts 671 = .ok (.iconst 0, 1) := by decide +kernel
theorem dL_acts_672 : decode cL_acts 672 = .ok (.ireturn, 1) := by decide +kernel
theorem dL_acts_673 : decode cL_acts 673 = .ok (.aload_n 0, 1) := by decide +kernel
theorem dL_acts_674 : decode cL_acts 674 = .ok (.invokevirtual 103, 3) := by decide +kernel
theorem dL_acts_677 : decode cL_acts 677 = .ok (.ifCond .ge 20, 3) := by decide +kernel
theorem dL_acts_680 : decode cL_acts 680 = .ok (.aload_n 0, 1) := by decide +kernel
theorem dL_acts_681 : decode cL_acts 681 = .ok (.iload 6, 2) := by decide +kernel
theorem dL_acts_683 : decode cL_acts 683 = .ok (.invokevirtual 91, 3) := by decide +kernel
theorem dL_acts_686 : decode cL_acts 686 = .ok (.iload 8, 2) := by decide +kernel
theorem dL_acts_688 : decode cL_acts 688 = .ok (.if_icmp .ne 7, 3) := by decide +kernel
theorem dL_acts_691 : decode cL_acts 691 = .ok (.iconst 1, 1) := by decide +kernel
theorem dL_acts_692 : decode cL_acts 692 = .ok (.goto 4, 3) := by decide +kernel
theorem dL_acts_695 : decode cL_acts 695 = .ok (.iconst 0, 1) := by decide +kernel
theorem dL_acts_696 : decode cL_acts 696 = .ok (.ireturn, 1) := by decide +kernel
theorem dL_acts_697 : decode cL_acts 697 = .ok (.aload_n 0, 1) := by decide +kernel
theorem dL_acts_698 : decode cL_acts 698 = .ok (.invokevirtual 94, 3) := by decide +kernel
theorem dL_acts_701 : decode cL_acts 701 = .ok (.istore 14, 2) := by decide +kernel
theorem dL_acts_703 : decode cL_acts 703 = .ok (.iconst 1, 1) := by decide +kernel
theorem dL_acts_704 : decode cL_acts 704 = .ok (.iload_n 2, 1) := by decide +kernel
theorem dL_acts_705 : decode cL_acts 705 = .ok (.bipush 9, 2) := by decide +kernel
theorem dL_acts_707 : decode cL_acts 707 = .ok (.invokestatic 82, 3) := by decide +kernel
theorem dL_acts_710 : decode cL_acts 710 = .ok (.iadd, 1) := by decide +kernel
theorem dL_acts_711 : decode cL_acts 711 = .ok (.istore 15, 2) := by decide +kernel
theorem dL_acts_713 : decode cL_acts 713 = .ok (.aload_n 0, 1) := by decide +kernel
theorem dL_acts_714 : decode cL_acts 714 = .ok (.iload 15, 2) := by decide +kernel
theorem dL_acts_716 : decode cL_acts 716 = .ok (.invokevirtual 109, 3) := by decide +kernel
theorem dL_acts_719 : decode cL_acts 719 = .ok (.iload 14, 2) := by decide +kernel
theorem dL_acts_721 : decode cL_acts 721 = .ok (.iload 15, 2) := by decide +kernel
theorem dL_acts_723 : decode cL_acts 723 = .ok (.if_icmp .le 11, 3) := by decide +kernel
theorem dL_acts_726 : decode cL_acts 726 = .ok (.iload 14, 2) := by decide +kernel
theorem dL_acts_728 : decode cL_acts 728 = .ok (.iload 15, 2) := by decide +kernel
theorem dL_acts_730 : decode cL_acts 730 = .ok (.isub, 1) := by decide +kernel
theorem dL_acts_731 : decode cL_acts 731 = .ok (.goto 4, 3) := by decide +kernel
theorem dL_acts_734 : decode cL_acts 734 = .ok (.iconst 0, 1) := by decide +kernel
theorem dL_acts_735 : decode cL_acts 735 = .ok (.if_icmp .ne 7, 3) := by decide +kernel
theorem dL_acts_738 : decode cL_acts 738 = .ok (.iconst 1, 1) := by decide +kernel
theorem dL_acts_739 : decode cL_acts 739 = .ok (.goto 4, 3) := by decide +kernel
theorem dL_acts_742 : decode cL_acts 742 = .ok (.iconst 0, 1) := by decide +kernel
theorem dL_acts_743 : decode cL_acts 743 = .ok (.ireturn, 1) := by decide +kernel
theorem dL_acts_744 : decode cL_acts 744 = .ok (.iload_n 2, 1) := by decide +kernel
theorem dL_acts_745 : decode cL_acts 745 = .ok (.iconst 4, 1) := by decide +kernel
theorem dL_acts_746 : decode cL_acts 746 = .ok (.ishr, 1) := by decide +kernel
theorem dL_acts_747 : decode cL_acts 747 = .ok (.iconst 5, 1) := by decide +kernel
theorem dL_acts_748 : decode cL_acts 748 = .ok (.invokestatic 82, 3) := by decide +kernel
theorem dL_acts_751 : decode cL_acts 751 = .ok (.istore 16, 2) := by decide +kernel
theorem dL_acts_753 : decode cL_acts 753 = .ok (.aload_n 0, 1) := by decide +kernel
theorem dL_acts_754 : decode cL_acts 754 = .ok (.iload 6, 2) := by decide +kernel
theorem dL_acts_756 : decode cL_acts 756 = .ok (.iload 16, 2) := by decide +kernel
theorem dL_acts_758 : decode cL_acts 758 = .ok (.invokevirtual 24, 3) := by decide +kernel
theorem dL_acts_761 : decode cL_acts 761 = .ok (.istore 17, 2) := by decide +kernel
theorem dL_acts_763 : decode cL_acts 763 = .ok (.aload_n 0, 1) := by decide +kernel
theorem dL_acts_764 : decode cL_acts 764 = .ok (.iload 6, 2) := by decide +kernel
theorem dL_acts_766 : decode cL_acts 766 = .ok (.iload 16, 2) := by decide +kernel
theorem dL_acts_768 : decode cL_acts 768 = .ok (.invokevirtual 27, 3) := by decide +kernel
theorem dL_acts_771 : decode cL_acts 771 = .ok (.istore 18, 2) := by decide +kernel
theorem dL_acts_773 : decode cL_acts 773 = .ok (.iload_n 2, 1) := by decide +kernel
theorem dL_acts_774 : decode cL_acts 774 = .ok (.bipush 7, 2) := by decide +kernel
theorem dL_acts_776 : decode cL_acts 776 = .ok (.ishr, 1) := by decide +kernel
theorem dL_acts_777 : decode cL_acts 777 = .ok (.bipush 100, 2) := by decide +kernel
theorem dL_acts_779 : decode cL_acts 779 = .ok (.invokestatic 82, 3) := by decide +kernel
theorem dL_acts_782 : decode cL_acts 782 = .ok (.istore 19, 2) := by decide +kernel
theorem dL_acts_784 : decode cL_acts 784 = .ok (.iload 17, 2) := by decide +kernel
theorem dL_acts_786 : decode cL_acts 786 = .ok (.ifCond .lt 8, 3) := by decide +kernel
theorem dL_acts_789 : decode cL_acts 789 = .ok (.iload 9, 2) := by decide +kernel
theorem dL_acts_791 : decode cL_acts 791 = .ok (.ifCond .eq 24, 3) := by decide +kernel
theorem dL_acts_794 : decode cL_acts 794 = .ok (.aload_n 0, 1) := by decide +kernel
theorem dL_acts_795 : decode cL_acts 795 = .ok (.iload 6, 2) := by decide +kernel
theorem dL_acts_797 : decode cL_acts 797 = .ok (.iload 9, 2) := by decide +kernel
theorem dL_acts_799 : decode cL_acts 799 = .ok (.invokevirtual 44, 3) := by decide +kernel
theorem dL_acts_802 : decode cL_acts 802 = .ok (.iload 9, 2) := by decide +kernel
theorem dL_acts_804 : decode cL_acts 804 = .ok (.if_icmp .ne 7, 3) := by decide +kernel
theorem dL_acts_807 : decode cL_acts 807 = .ok (.iconst 1, 1) := by decide +kernel
theorem dL_acts_808 : decode cL_acts 808 = .ok (.goto 53, 3) := by decide +kernel
theorem dL_acts_811 : decode cL_acts 811 = .ok (.iconst 0, 1) := by decide +kernel
theorem dL_acts_812 : decode cL_acts 812 = .ok (.goto 49, 3) := by decide +kernel
theorem dL_acts_815 : decode cL_acts 815 = .ok (.aload_n 0, 1) := by decide +kernel
theorem dL_acts_816 : decode cL_acts 816 = .ok (.iload 6, 2) := by decide +kernel
theorem dL_acts_818 : decode cL_acts 818 = .ok (.iload 16, 2) := by decide +kernel
theorem dL_acts_820 : decode cL_acts 820 = .ok (.iload 19, 2) := by decide +kernel
theorem dL_acts_822 : decode cL_acts 822 = .ok (.invokevirtual 112, 3) := by decide +kernel
theorem dL_acts_825 : decode cL_acts 825 = .ok (.iload 17, 2) := by decide +kernel
theorem dL_acts_827 : decode cL_acts 827 = .ok (.if_icmp .ne 33, 3) := by decide +kernel
theorem dL_acts_830 : decode cL_acts 830 = .ok (.aload_n 0, 1) := by decide +kernel
theorem dL_acts_831 : decode cL_acts 831 = .ok (.iload 6, 2) := by decide +kernel
theorem dL_acts_833 : decode cL_acts 833 = .ok (.iload 16, 2) := by decide +kernel
theorem dL_acts_835 : decode cL_acts 835 = .ok (.invokevirtual 24, 3) := by decide +kernel
theorem dL_acts_838 : decode cL_acts 838 = .ok (.iload 19, 2) := by decide +kernel
theorem dL_acts_840 : decode cL_acts 840 = .ok (.if_icmp .ne 20, 3) := by decide +kernel
theorem dL_acts_843 : decode cL_acts 843 = .ok (.aload_n 0, 1) := by decide +kernel
theorem dL_acts_844 : decode cL_acts 844 = .ok (.iload 6, 2) := by decide +kernel
theorem dL_acts_846 : decode cL_acts 846 = .ok (.iload 16, 2) := by decide +kernel
theorem dL_acts_848 : decode cL_acts 848 = .ok (.invokevirtual 27, 3) := by decide +kernel
theorem dL_acts_851 : decode cL_acts 851 = .ok (.iload 18, 2) := by decide +kernel
theorem dL_acts_853 : decode cL_acts 853 = .ok (.if_icmp .ne 7, 3) := by decide +kernel
theorem dL_acts_856 : decode cL_acts 856 = .ok (.iconst 1, 1) := by decide +kernel
theorem dL_acts_857 : decode cL_acts 857 = .ok (.goto 4, 3) := by decide +kernel
theorem dL_acts_860 : decode cL_acts 860 = .ok (.iconst 0, 1) := by decide +kernel
theorem dL_acts_861 : decode cL_acts 861 = .ok (.ireturn, 1) := by decide +kernel
theorem dL_acts_862 : decode cL_acts 862 = .ok (.aload_n 0, 1) := by decide +kernel
theorem dL_acts_863 : decode cL_acts 863 = .ok (.iload_n 2, 1) := by decide +kernel
theorem dL_acts_864 : decode cL_acts 864 = .ok (.bipush 100, 2) := by decide +kernel
theorem dL_acts_866 : decode cL_acts 866 = .ok (.invokestatic 82, 3) := by decide +kernel
theorem dL_acts_869 : decode cL_acts 869 = .ok (.invokestatic 116, 3) := by decide +kernel
theorem dL_acts_872 : decode cL_acts 872 = .ok (.ireturn, 1) := by decide +kernel
theorem dL_holds_0 : decode cL_holds 0 = .ok (.iconst 0, 1) := by decide +kernel
theorem dL_holds_1 : decode cL_holds 1 = .ok (.istore_n 1, 1) := by decide +kernel
theorem dL_holds_2 : decode cL_holds 2 = .ok (.iconst 0, 1) := by decide +kernel
theorem dL_holds_3 : decode cL_holds 3 = .ok (.istore_n 2, 1) := by decide +kernel
theorem dL_holds_4 : decode cL_holds 4 = .ok (.aload_n 0, 1) := by decide +kernel
theorem dL_holds_5 : decode cL_holds 5 = .ok (.invokevirtual 85, 3) := by decide +kernel
theorem dL_holds_8 : decode cL_holds 8 = .ok (.istore_n 3, 1) := by decide +kernel
theorem dL_holds_9 : decode cL_holds 9 = .ok (.iconst 0, 1) := by decide +kernel
theorem dL_holds_10 : decode cL_holds 10 = .ok (.istore 4, 2) := by decide +kernel
theorem dL_holds_12 : decode cL_holds 12 = .ok (.iconst 0, 1) := by decide +kernel
theorem dL_holds_13 : decode cL_holds 13 = .ok (.istore 5, 2) := by decide +kernel
theorem dL_holds_15 : decode cL_holds 15 = .ok (.aload_n 0, 1) := by decide +kernel
theorem dL_holds_16 : decode cL_holds 16 = .ok (.invokevirtual 63, 3) := by decide +kernel
theorem dL_holds_19 : decode cL_holds 19 = .ok (.bipush 10, 2) := by decide +kernel
theorem dL_holds_21 : decode cL_holds 21 = .ok (.if_icmp .gt 28, 3) := by decide +kernel
theorem dL_holds_24 : decode cL_holds 24 = .ok (.aload_n 0, 1) := by decide +kernel
theorem dL_holds_25 : decode cL_holds 25 = .ok (.invokevirtual 33, 3) := by decide +kernel
theorem dL_holds_28 : decode cL_holds 28 = .ok (.iconst (-1), 1) := by decide +kernel
theorem dL_holds_29 : decode cL_holds 29 = .ok (.if_icmp .eq 16, 3) := by decide +kernel
theorem dL_holds_32 : decode cL_holds 32 = .ok (.aload_n 0, 1) := by decide +kernel
theorem dL_holds_33 : decode cL_holds 33 = .ok (.invokevirtual 33, 3) := by decide +kernel
theorem dL_holds_36 : decode cL_holds 36 = .ok (.aload_n 0, 1) := by decide +kernel
theorem dL_holds_37 : decode cL_holds 37 = .ok (.invokevirtual 63, 3) := by decide +kernel
theorem dL_holds_40 : decode cL_holds 40 = .ok (.iconst 1, 1) := by decide +kernel
theorem dL_holds_41 : decode cL_holds 41 = .ok (.isub, 1) := by decide +kernel
theorem dL_holds_42 : decode cL_holds 42 = .ok (.if_icmp .ne 7, 3) := by decide +kernel
theorem dL_holds_45 : decode cL_holds 45 = .ok (.iconst 1, 1) := by decide +kernel
theorem dL_holds_46 : decode cL_holds 46 = .ok (.goto 4, 3) := by decide +kernel
theorem dL_holds_49 : decode cL_holds 49 = .ok (.iconst 0, 1) := by decide +kernel
theorem dL_holds_50 : decode cL_holds 50 = .ok (.istore 6, 2) := by decide +kernel
theorem dL_holds_52 : decode cL_holds 52 = .ok (.iconst 0, 1) := by decide +kernel
theorem dL_holds_53 : decode cL_holds 53 = .ok (.istore 7, 2) := by decide +kernel
theorem dL_holds_55 : decode cL_holds 55 = .ok (.iload 7, 2) := by decide +kernel
theorem dL_holds_57 : decode cL_holds 57 = .ok (.aload_n 0, 1) := by decide +kernel
theorem dL_holds_58 : decode cL_holds 58 = .ok (.invokevirtual 63, 3) := by decide +kernel
theorem dL_holds_61 : decode cL_holds 61 = .ok (.if_icmp .ge 284, 3) := by decide +kernel
theorem dL_holds_64 : decode cL_holds 64 = .ok (.aload_n 0, 1) := by decide +kernel
theorem dL_holds_65 : decode cL_holds 65 = .ok (.iload 7, 2) := by decide +kernel
theorem dL_holds_67 : decode cL_holds 67 = .ok (.invokevirtual 11, 3) := by decide +kernel
theorem dL_holds_70 : decode cL_holds 70 = .ok (.istore 8, 2) := by decide +kernel
theorem dL_holds_72 : decode cL_holds 72 = .ok (.aload_n 0, 1) := by decide +kernel
theorem dL_holds_73 : decode cL_holds 73 = .ok (.iload 7, 2) := by decide +kernel
theorem dL_holds_75 : decode cL_holds 75 = .ok (.invokevirtual 37, 3) := by decide +kernel
theorem dL_holds_78 : decode cL_holds 78 = .ok (.ifCond .ne 16, 3) := by decide +kernel
theorem dL_holds_81 : decode cL_holds 81 = .ok (.iload 7, 2) := by decide +kernel
theorem dL_holds_83 : decode cL_holds 83 = .ok (.aload_n 0, 1) := by decide +kernel
theorem dL_holds_84 : decode cL_holds 84 = .ok (.invokevirtual 33, 3) := by decide +kernel
theorem dL_holds_87 : decode cL_holds 87 = .ok (.if_icmp .eq 7, 3) := by decide +kernel
theorem dL_holds_90 : decode cL_holds 90 = .ok (.iconst 1, 1) := by decide +kernel
theorem dL_holds_91 : decode cL_holds 91 = .ok (.goto 4, 3) := by decide +kernel
theorem dL_holds_94 : decode cL_holds 94 = .ok (.iconst 0, 1) := by decide +kernel
theorem dL_holds_95 : decode cL_holds 95 = .ok (.istore 9, 2) := by decide +kernel
theorem dL_holds_97 : decode cL_holds 97 = .ok (.iload_n 2, 1) := by decide +kernel
theorem dL_holds_98 : decode cL_holds 98 = .ok (.iload 8, 2) := by decide +kernel
theorem dL_holds_100 : decode cL_holds 100 = .ok (.iadd, 1) := by decide +kernel
theorem dL_holds_101 : decode cL_holds 101 = .ok (.istore_n 2, 1) := by decide +kernel
theorem dL_holds_102 : decode cL_holds 102 = .ok (.iload_n 3, 1) := by decide +kernel
theorem dL_holds_103 : decode cL_holds 103 = .ok (.iload 9, 2) := by decide +kernel
theorem dL_holds_105 : decode cL_holds 105 = .ok (.ifCond .eq 8, 3) := by decide +kernel
theorem dL_holds_108 : decode cL_holds 108 = .ok (.iload 8, 2) := by decide +kernel
theorem dL_holds_110 : decode cL_holds 110 = .ok (.goto 4, 3) := by decide +kernel
theorem dL_holds_113 : decode cL_holds 113 = .ok (.iconst 0, 1) := by decide +kernel
theorem dL_holds_114 : decode cL_holds 114 = .ok (.iadd, 1) := by decide +kernel
theorem dL_holds_115 : decode cL_holds 115 = .ok (.istore_n 3, 1) := by decide +kernel
theorem dL_holds_116 : decode cL_holds 116 = .ok (.iload 5, 2) := by decide +kernel
theorem dL_holds_118 : decode cL_holds 118 = .ok (.ifCond .ne 13, 3) := by decide +kernel
theorem dL_holds_121 : decode cL_holds 121 = .ok (.iload 9, 2) := by decide +kernel
theorem dL_holds_123 : decode cL_holds 123 = .ok (.ifCond .eq 12, 3) := by decide +kernel
theorem dL_holds_126 : decode cL_holds 126 = .ok (.iload 8, 2) := by decide +kernel
theorem dL_holds_128 : decode cL_holds 128 = .ok (.ifCond .le 7, 3) := by decide +kernel
theorem dL_holds_131 : decode cL_holds 131 = .ok (.iconst 1, 1) := by decide +kernel
theorem dL_holds_132 : decode cL_holds 132 = .ok (.goto 4, 3) := by decide +kernel
theorem dL_holds_135 : decode cL_holds 135 = .ok (.iconst 0, 1) := by decide +kernel
theorem dL_holds_136 : decode cL_holds 136 = .ok (.istore 5, 2) := by decide +kernel
theorem dL_holds_138 : decode cL_holds 138 = .ok (.iconst 0, 1) := by decide +kernel
theorem dL_holds_139 : decode cL_holds 139 = .ok (.istore 10, 2) := by decide +kernel
theorem dL_holds_141 : decode cL_holds 141 = .ok (.iload 10, 2) := by decide +kernel
theorem dL_holds_143 : decode cL_holds 143 = .ok (.iload 8, 2) := by decide +kernel
theorem dL_holds_145 : decode cL_holds 145 = .ok (.if_icmp .ge 123, 3) := by decide +kernel
theorem dL_holds_148 : decode cL_holds 148 = .ok (.aload_n 0, 1) := by decide +kernel
theorem dL_holds_149 : decode cL_holds 149 = .ok (.iload 7, 2) := by decide +kernel
theorem dL_holds_151 : decode cL_holds 151 = .ok (.iload 10, 2) := by decide +kernel
theorem dL_holds_153 : decode cL_holds 153 = .ok (.invokevirtual 20, 3) := by decide +kernel
theorem dL_holds_156 : decode cL_holds 156 = .ok (.istore 11, 2) := by decide +kernel
theorem dL_holds_158 : decode cL_holds 158 = .ok (.iload 6, 2) := by decide +kernel
theorem dL_holds_160 : decode cL_holds 160 = .ok (.ifCond .eq 63, 3) := by decide +kernel
theorem dL_holds_163 : decode cL_holds 163 = .ok (.iload 11, 2) := by decide +kernel
theorem dL_holds_165 : decode cL_holds 165 = .ok (.ifCond .lt 58, 3) := by decide +kernel
theorem dL_holds_168 : decode cL_holds 168 = .ok (.iload 11, 2) := by decide +kernel
theorem dL_holds_170 : decode cL_holds 170 = .ok (.bipush 32, 2) := by decide +kernel
theorem dL_holds_172 : decode cL_holds 172 = .ok (.if_icmp .ge 51, 3) := by decide +kernel
theorem dL_holds_175 : decode cL_holds 175 = .ok (.iload_n 1, 1) := by decide +kernel
theorem dL_holds_176 : decode cL_holds 176 = .ok (.iload 11, 2) := by decide +kernel
theorem dL_holds_178 : decode cL_holds 178 = .ok (.ishr, 1) := by decide +kernel
theorem dL_holds_179 : decode cL_holds 179 = .ok (.iconst 1, 1) := by decide +kernel
theorem dL_holds_180 : decode cL_holds 180 = .ok (.iand, 1) := by decide +kernel
theorem dL_holds_181 : decode cL_holds 181 = .ok (.ifCond .ne 42, 3) := by decide +kernel
theorem dL_holds_184 : decode cL_holds 184 = .ok (.aload_n 0, 1) := by decide +kernel
theorem dL_holds_185 : decode cL_holds 185 = .ok (.iload 11, 2) := by decide +kernel
theorem dL_holds_187 : decode cL_holds 187 = .ok (.invokevirtual 30, 3) := by decide +kernel
theorem dL_holds_190 : decode cL_holds 190 = .ok (.iload 7, 2) := by decide +kernel
theorem dL_holds_192 : decode cL_holds 192 = .ok (.if_icmp .ne 31, 3) := by decide +kernel
theorem dL_holds_195 : decode cL_holds 195 = .ok (.aload_n 0, 1) := by decide +kernel
theorem dL_holds_196 : decode cL_holds 196 = .ok (.iload 7, 2) := by decide +kernel
theorem dL_holds_198 : decode cL_holds 198 = .ok (.iload 10, 2) := by decide +kernel
theorem dL_holds_200 : decode cL_holds 200 = .ok (.invokevirtual 24, 3) := by decide +kernel
theorem dL_holds_203 : decode cL_holds 203 = .ok (.ifCond .lt 20, 3) := by decide +kernel
theorem dL_holds_206 : decode cL_holds 206 = .ok (.aload_n 0, 1) := by decide +kernel
theorem dL_holds_207 : decode cL_holds 207 = .ok (.iload 7, 2) := by decide +kernel
theorem dL_holds_209 : decode cL_holds 209 = .ok (.iload 10, 2) := by decide +kernel
theorem dL_holds_211 : decode cL_holds 211 = .ok (.invokevirtual 24, 3) := by decide +kernel
theorem dL_holds_214 : decode cL_holds 214 = .ok (.bipush 99, 2) := by decide +kernel
theorem dL_holds_216 : decode cL_holds 216 = .ok (.if_icmp .gt 7, 3) := by decide +kernel
theorem dL_holds_219 : decode cL_holds 219 = .ok (.iconst 1, 1) := by decide +kernel
theorem dL_holds_220 : decode cL_holds 220 = .ok (.goto 4, 3) := by decide +kernel
theorem dL_holds_223 : decode cL_holds 223 = .ok (.iconst 0, 1) := by decide +kernel
theorem dL_holds_224 : decode cL_holds 224 = .ok (.istore 6, 2) := by decide +kernel
theorem dL_holds_226 : decode cL_holds 226 = .ok (.iload_n 1, 1) := by decide +kernel
theorem dL_holds_227 : decode cL_holds 227 = .ok (.iconst 1, 1) := by decide +kernel
theorem dL_holds_228 : decode cL_holds 228 = .ok (.iload 11, 2) := by decide +kernel
theorem dL_holds_230 : decode cL_holds 230 = .ok (.ishl, 1) := by decide +kernel
theorem dL_holds_231 : decode cL_holds 231 = .ok (.ior, 1) := by decide +kernel
theorem dL_holds_232 : decode cL_holds 232 = .ok (.istore_n 1, 1) := by decide +kernel
theorem dL_holds_233 : decode cL_holds 233 = .ok (.iload 4, 2) := by decide +kernel
theorem dL_holds_235 : decode cL_holds 235 = .ok (.aload_n 0, 1) := by decide +kernel
theorem dL_holds_236 : decode cL_holds 236 = .ok (.iload 7, 2) := by decide +kernel
theorem dL_holds_238 : decode cL_holds 238 = .ok (.iload 10, 2) := by decide +kernel
theorem dL_holds_240 : decode cL_holds 240 = .ok (.invokevirtual 24, 3) := by decide +kernel
theorem dL_holds_243 : decode cL_holds 243 = .ok (.aload_n 0, 1) := by decide +kernel
theorem dL_holds_244 : decode cL_holds 244 = .ok (.iload 7, 2) := by decide +kernel
theorem dL_holds_246 : decode cL_holds 246 = .ok (.iload 10, 2) := by decide +kernel
theorem dL_holds_248 : decode cL_holds 248 = .ok (.invokevirtual 27, 3) := by decide +kernel
theorem dL_holds_251 : decode cL_holds 251 = .ok (.if_icmp .ne 7, 3) := by decide +kernel
theorem dL_holds_254 : decode cL_holds 254 = .ok (.iconst 0, 1) := by decide +kernel
theorem dL_holds_255 : decode cL_holds 255 = .ok (.goto 4, 3) := by decide +kernel
theorem dL_holds_258 : decode cL_holds 258 = .ok (.iconst 1, 1) := by decide +kernel
theorem dL_holds_259 : decode cL_holds 259 = .ok (.iadd, 1) := by decide +kernel
theorem dL_holds_260 : decode cL_holds 260 = .ok (.istore 4, 2) := by decide +kernel
theorem dL_holds_262 : decode cL_holds 262 = .ok (.iinc 10 1, 3) := by decide +kernel
theorem dL_holds_265 : decode cL_holds 265 = .ok (.goto (-124), 3) := by decide +kernel
theorem dL_holds_268 : decode cL_holds 268 = .ok (.iload 6, 2) := by decide +kernel
theorem dL_holds_270 : decode cL_holds 270 = .ok (.ifCond .eq 66, 3) := by decide +kernel
theorem dL_holds_273 : decode cL_holds 273 = .ok (.aload_n 0, 1) := by decide +kernel
theorem dL_holds_274 : decode cL_holds 274 = .ok (.iload 7, 2) := by decide +kernel
theorem dL_holds_276 : decode cL_holds 276 = .ok (.iload 8, 2) := by decide +kernel
theorem dL_holds_278 : decode cL_holds 278 = .ok (.invokevirtual 20, 3) := by decide +kernel
theorem dL_holds_281 : decode cL_holds 281 = .ok (.iconst (-1), 1) := by decide +kernel
theorem dL_holds_282 : decode cL_holds 282 = .ok (.if_icmp .ne 54, 3) := by decide +kernel
theorem dL_holds_285 : decode cL_holds 285 = .ok (.aload_n 0, 1) := by decide +kernel
theorem dL_holds_286 : decode cL_holds 286 = .ok (.iload 7, 2) := by decide +kernel
theorem dL_holds_288 : decode cL_holds 288 = .ok (.iload 8, 2) := by decide +kernel
theorem dL_holds_290 : decode cL_holds 290 = .ok (.invokevirtual 24, 3) := by decide +kernel
theorem dL_holds_293 : decode cL_holds 293 = .ok (.iconst (-1), 1) := by decide +kernel
theorem dL_holds_294 : decode cL_holds 294 = .ok (.if_icmp .ne 42, 3) := by decide +kernel
theorem dL_holds_297 : decode cL_holds 297 = .ok (.aload_n 0, 1) := by decide +kernel
theorem dL_holds_298 : decode cL_holds 298 = .ok (.iload 7, 2) := by decide +kernel
theorem dL_holds_300 : decode cL_holds 300 = .ok (.iload 8, 2) := by decide +kernel
theorem dL_holds_302 : decode cL_holds 302 = .ok (.invokevirtual 27, 3) := by decide +kernel
theorem dL_holds_305 : decode cL_holds 305 = .ok (.iconst (-1), 1) := by decide +kernel
theorem dL_holds_306 : decode cL_holds 306 = .ok (.if_icmp .ne 30, 3) := by decide +kernel
theorem dL_holds_309 : decode cL_holds 309 = .ok (.aload_n 0, 1) := by decide +kernel
theorem dL_holds_310 : decode cL_holds 310 = .ok (.iload 7, 2) := by decide +kernel
theorem dL_holds_312 : decode cL_holds 312 = .ok (.invokevirtual 17, 3) := by decide +kernel
theorem dL_holds_315 : decode cL_holds 315 = .ok (.ifCond .lt 21, 3) := by decide +kernel
theorem dL_holds_318 : decode cL_holds 318 = .ok (.iload 8, 2) := by decide +kernel
theorem dL_holds_320 : decode cL_holds 320 = .ok (.ifCond .gt 12, 3) := by decide +kernel
theorem dL_holds_323 : decode cL_holds 323 = .ok (.iload 7, 2) := by decide +kernel
theorem dL_holds_325 : decode cL_holds 325 = .ok (.aload_n 0, 1) := by decide +kernel
theorem dL_holds_326 : decode cL_holds 326 = .ok (.invokevirtual 33, 3) := by decide +kernel
theorem dL_holds_329 : decode cL_holds 329 = .ok (.if_icmp .ne 7, 3) := by decide +kernel
theorem dL_holds_332 : decode cL_holds 332 = .ok (.iconst 1, 1) := by decide +kernel
theorem dL_holds_333 : decode cL_holds 333 = .ok (.goto 4, 3) := by decide +kernel
theorem dL_holds_336 : decode cL_holds 336 = .ok (.iconst 0, 1) := by decide +kernel
theorem dL_holds_337 : decode cL_holds 337 = .ok (.istore 6, 2) := by decide +kernel
theorem dL_holds_339 : decode cL_holds 339 = .ok (.iinc 7 1, 3) := by decide +kernel
theorem dL_holds_342 : decode cL_holds 342 = .ok (.goto (-287), 3) := by decide +kernel
theorem dL_holds_345 : decode cL_holds 345 = .ok (.iconst 0, 1) := by decide +kernel
theorem dL_holds_346 : decode cL_holds 346 = .ok (.istore 7, 2) := by decide +kernel
theorem dL_holds_348 : decode cL_holds 348 = .ok (.iload 7, 2) := by decide +kernel
theorem dL_holds_350 : decode cL_holds 350 = .ok (.bipush 32, 2) := by decide +kernel
theorem dL_holds_352 : decode cL_holds 352 = .ok (.if_icmp .ge 53, 3) := by decide +kernel
theorem dL_holds_355 : decode cL_holds 355 = .ok (.iload 6, 2) := by decide +kernel
theorem dL_holds_357 : decode cL_holds 357 = .ok (.ifCond .eq 39, 3) := by decide +kernel
theorem dL_holds_360 : decode cL_holds 360 = .ok (.aload_n 0, 1) := by decide +kernel
theorem dL_holds_361 : decode cL_holds 361 = .ok (.iload 7, 2) := by decide +kernel
theorem dL_holds_363 : decode cL_holds 363 = .ok (.invokevirtual 30, 3) := by decide +kernel
theorem dL_holds_366 : decode cL_holds 366 = .ok (.iconst (-1), 1) := by decide +kernel
theorem dL_holds_367 : decode cL_holds 367 = .ok (.if_icmp .ne 7, 3) := by decide +kernel
theorem dL_holds_370 : decode cL_holds 370 = .ok (.iconst 1, 1) := by decide +kernel
theorem dL_holds_371 : decode cL_holds 371 = .ok (.goto 4, 3) := by decide +kernel
theorem dL_holds_374 : decode cL_holds 374 = .ok (.iconst 0, 1) := by decide +kernel
theorem dL_holds_375 : decode cL_holds 375 = .ok (.iload_n 1, 1) := by decide +kernel
theorem dL_holds_376 : decode cL_holds 376 = .ok (.iload 7, 2) := by decide +kernel
theorem dL_holds_378 : decode cL_holds 378 = .ok (.ishr, 1) := by decide +kernel
theorem dL_holds_379 : decode cL_holds 379 = .ok (.iconst 1, 1) := by decide +kernel
theorem dL_holds_380 : decode cL_holds 380 = .ok (.iand, 1) := by decide +kernel
theorem dL_holds_381 : decode cL_holds 381 = .ok (.ifCond .ne 7, 3) := by decide +kernel
theorem dL_holds_384 : decode cL_holds 384 = .ok (.iconst 1, 1) := by decide +kernel
theorem dL_holds_385 : decode cL_holds 385 = .ok (.goto 4, 3) := by decide +kernel
theorem dL_holds_388 : decode cL_holds 388 = .ok (.iconst 0, 1) := by decide +kernel
theorem dL_holds_389 : decode cL_holds 389 = .ok (.if_icmp .ne 7, 3) := by decide +kernel
theorem dL_holds_392 : decode cL_holds 392 = .ok (.iconst 1, 1) := by decide +kernel
theorem dL_holds_393 : decode cL_holds 393 = .ok (.goto 4, 3) := by decide +kernel
theorem dL_holds_396 : decode cL_holds 396 = .ok (.iconst 0, 1) := by decide +kernel
theorem dL_holds_397 : decode cL_holds 397 = .ok (.istore 6, 2) := by decide +kernel
theorem dL_holds_399 : decode cL_holds 399 = .ok (.iinc 7 1, 3) := by decide +kernel
theorem dL_holds_402 : decode cL_holds 402 = .ok (.goto (-54), 3) := by decide +kernel
theorem dL_holds_405 : decode cL_holds 405 = .ok (.aload_n 0, 1) := by decide +kernel
theorem dL_holds_406 : decode cL_holds 406 = .ok (.invokevirtual 103, 3) := by decide +kernel
theorem dL_holds_409 : decode cL_holds 409 = .ok (.iconst (-1), 1) := by decide +kernel
theorem dL_holds_410 : decode cL_holds 410 = .ok (.if_icmp .ne 19, 3) := by decide +kernel
theorem dL_holds_413 : decode cL_holds 413 = .ok (.aload_n 0, 1) := by decide +kernel
theorem dL_holds_414 : decode cL_holds 414 = .ok (.invokevirtual 94, 3) := by decide +kernel
theorem dL_holds_417 : decode cL_holds 417 = .ok (.iconst (-1), 1) := by decide +kernel
theorem dL_holds_418 : decode cL_holds 418 = .ok (.if_icmp .ne 7, 3) := by decide +kernel
theorem dL_holds_421 : decode cL_holds 421 = .ok (.iconst 1, 1) := by decide +kernel
theorem dL_holds_422 : decode cL_holds 422 = .ok (.goto 34, 3) := by decide +kernel
theorem dL_holds_425 : decode cL_holds 425 = .ok (.iconst 0, 1) := by decide +kernel
theorem dL_holds_426 : decode cL_holds 426 = .ok (.goto 30, 3) := by decide +kernel
theorem dL_holds_429 : decode cL_holds 429 = .ok (.aload_n 0, 1) := by decide +kernel
theorem dL_holds_430 : decode cL_holds 430 = .ok (.invokevirtual 94, 3) := by decide +kernel
theorem dL_holds_433 : decode cL_holds 433 = .ok (.ifCond .lt 22, 3) := by decide +kernel
theorem dL_holds_436 : decode cL_holds 436 = .ok (.aload_n 0, 1) := by decide +kernel
theorem dL_holds_437 : decode cL_holds 437 = .ok (.invokevirtual 94, 3) := by decide +kernel
theorem dL_holds_440 : decode cL_holds 440 = .ok (.aload_n 0, 1) := by decide +kernel
theorem dL_holds_441 : decode cL_holds 441 = .ok (.aload_n 0, 1) := by decide +kernel
theorem dL_holds_442 : decode cL_holds 442 = .ok (.invokevirtual 103, 3) := by decide +kernel
theorem dL_holds_445 : decode cL_holds 445 = .ok (.invokevirtual 11, 3) := by decide +kernel
theorem dL_holds_448 : decode cL_holds 448 = .ok (.if_icmp .gt 7, 3) := by decide +kernel
theorem dL_holds_451 : decode cL_holds 451 = .ok (.iconst 1, 1) := by decide +kernel
theorem dL_holds_452 : decode cL_holds 452 = .ok (.goto 4, 3) := by decide +kernel
theorem dL_holds_455 : decode cL_holds 455 = .ok (.iconst 0, 1) := by decide +kernel
theorem dL_holds_456 : decode cL_holds 456 = .ok (.istore 7, 2) := by decide +kernel
theorem dL_holds_458 : decode cL_holds 458 = .ok (.iload 6, 2) := by decide +kernel
theorem dL_holds_460 : decode cL_holds 460 = .ok (.ifCond .eq 80, 3) := by decide +kernel
theorem dL_holds_463 : decode cL_holds 463 = .ok (.iload 7, 2) := by decide +kernel
theorem dL_holds_465 : decode cL_holds 465 = .ok (.ifCond .eq 75, 3) := by decide +kernel
theorem dL_holds_468 : decode cL_holds 468 = .ok (.aload_n 0, 1) := by decide +kernel
theorem dL_holds_469 : decode cL_holds 469 = .ok (.invokevirtual 85, 3) := by decide +kernel
theorem dL_holds_472 : decode cL_holds 472 = .ok (.iload_n 2, 1) := by decide +kernel
theorem dL_holds_473 : decode cL_holds 473 = .ok (.iadd, 1) := by decide +kernel
theorem dL_holds_474 : decode cL_holds 474 = .ok (.bipush 32, 2) := by decide +kernel
theorem dL_holds_476 : decode cL_holds 476 = .ok (.if_icmp .ne 64, 3) := by decide +kernel
theorem dL_holds_479 : decode cL_holds 479 = .ok (.aload_n 0, 1) := by decide +kernel
theorem dL_holds_480 : decode cL_holds 480 = .ok (.invokevirtual 41, 3) := by decide +kernel
theorem dL_holds_483 : decode cL_holds 483 = .ok (.iload_n 3, 1) := by decide +kernel
theorem dL_holds_484 : decode cL_holds 484 = .ok (.if_icmp .ne 56, 3) := by decide +kernel
theorem dL_holds_487 : decode cL_holds 487 = .ok (.aload_n 0, 1) := by decide +kernel
theorem dL_holds_488 : decode cL_holds 488 = .ok (.invokevirtual 119, 3) := by decide +kernel
theorem dL_holds_491 : decode cL_holds 491 = .ok (.iload 4, 2) := by decide +kernel
theorem dL_holds_493 : decode cL_holds 493 = .ok (.if_icmp .ne 47, 3) := by decide +kernel
theorem dL_holds_496 : decode cL_holds 496 = .ok (.aload_n 0, 1) := by decide +kernel
theorem dL_holds_497 : decode cL_holds 497 = .ok (.invokevirtual 122, 3) := by decide +kernel
theorem dL_holds_500 : decode cL_holds 500 = .ok (.iconst (-1), 1) := by decide +kernel
theorem dL_holds_501 : decode cL_holds 501 = .ok (.if_icmp .ne 7, 3) := by decide +kernel
theorem dL_holds_504 : decode cL_holds 504 = .ok (.iconst 1, 1) := by decide +kernel
theorem dL_holds_505 : decode cL_holds 505 = .ok (.goto 4, 3) := by decide +kernel
theorem dL_holds_508 : decode cL_holds 508 = .ok (.iconst 0, 1) := by decide +kernel
theorem dL_holds_509 : decode cL_holds 509 = .ok (.iload 5, 2) := by decide +kernel
theorem dL_holds_511 : decode cL_holds 511 = .ok (.ifCond .ne 7, 3) := by decide +kernel
theorem dL_holds_514 : decode cL_holds 514 = .ok (.iconst 1, 1) := by decide +kernel
theorem dL_holds_515 : decode cL_holds 515 = .ok (.goto 4, 3) := by decide +kernel
theorem dL_holds_518 : decode cL_holds 518 = .ok (.iconst 0, 1) := by decide +kernel
theorem dL_holds_519 : decode cL_holds 519 = .ok (.if_icmp .ne 21, 3) := by decide +kernel
theorem dL_holds_522 : decode cL_holds 522 = .ok (.aload_n 0, 1) := by decide +kernel
theorem dL_holds_523 : decode cL_holds 523 = .ok (.invokevirtual 125, 3) := by decide +kernel
theorem dL_holds_526 : decode cL_holds 526 = .ok (.iload_n 2, 1) := by decide +kernel
theorem dL_holds_527 : decode cL_holds 527 = .ok (.i2d, 1) := by decide +kernel
theorem dL_holds_528 : decode cL_holds 528 = .ok (.ldc2_w 129, 3) := by decide +kernel
theorem dL_holds_531 : decode cL_holds 531 = .ok (.ddiv, 1) := by decide +kernel
theorem dL_holds_532 : decode cL_holds 532 = .ok (.dcmp .l, 1) := by decide +kernel
theorem dL_holds_533 : decode cL_holds 533 = .ok (.ifCond .ne 7, 3) := by decide +kernel
theorem dL_holds_536 : decode cL_holds 536 = .ok (.iconst 1, 1) := by decide +kernel
theorem dL_holds_537 : decode cL_holds 537 = .ok (.goto 4, 3) := by decide +kernel
theorem dL_holds_540 : decode cL_holds 540 = .ok (.iconst 0, 1) := by decide +kernel
theorem dL_holds_541 : decode cL_holds 541 = .ok (.ireturn, 1) := by decide +kernel
theorem dL_isAhead_0 : decode cL_isAhead 0 = .ok (.aload_n 0, 1) := by decide +kernel
theorem dL_isAhead_1 : decode cL_isAhead 1 = .ok (.iload_n 1, 1) := by decide +kernel
theorem dL_isAhead_2 : decode cL_isAhead 2 = .ok (.invokevirtual 66, 3) := by decide +kernel
theorem dL_isAhead_5 : decode cL_isAhead 5 = .ok (.aload_n 0, 1) := by decide +kernel
theorem dL_isAhead_6 : decode cL_isAhead 6 = .ok (.iload_n 1, 1) := by decide +kernel
theorem dL_isAhead_7 : decode cL_isAhead 7 = .ok (.bipush 32, 2) := by decide +kernel
theorem dL_isAhead_9 : decode cL_isAhead 9 = .ok (.if_icmp .ge 9, 3) := by decide +kernel
theorem dL_isAhead_12 : decode cL_isAhead 12 = .ok (.iload_n 1, 1) := by decide +kernel
theorem dL_isAhead_13 : decode cL_isAhead 13 = .ok (.iconst 1, 1) := by decide +kernel
theorem dL_isAhead_14 : decode cL_isAhead 14 = .ok (.iadd, 1) := by decide +kernel
theorem dL_isAhead_15 : decode cL_isAhead 15 = .ok (.goto 5, 3) := by decide +kernel
theorem dL_isAhead_18 : decode cL_isAhead 18 = .ok (.bipush 32, 2) := by decide +kernel
theorem dL_isAhead_20 : decode cL_isAhead 20 = .ok (.invokevirtual 66, 3) := by decide +kernel
theorem dL_isAhead_23 : decode cL_isAhead 23 = .ok (.if_icmp .gt 7, 3) := by decide +kernel
theorem dL_isAhead_26 : decode cL_isAhead 26 = .ok (.iconst 1, 1) := by decide +kernel
theorem dL_isAhead_27 : decode cL_isAhead 27 = .ok (.goto 4, 3) := by decide +kernel
theorem dL_isAhead_30 : decode cL_isAhead 30 = .ok (.iconst 0, 1) := by decide +kernel
theorem dL_isAhead_31 : decode cL_isAhead 31 = .ok (.istore_n 2, 1) := by decide +kernel
theorem dL_isAhead_32 : decode cL_isAhead 32 = .ok (.iconst 0, 1) := by decide +kernel
theorem dL_isAhead_33 : decode cL_isAhead 33 = .ok (.istore_n 3, 1) := by decide +kernel
theorem dL_isAhead_34 : decode cL_isAhead 34 = .ok (.iconst 0, 1) := by decide +kernel
theorem dL_isAhead_35 : decode cL_isAhead 35 = .ok (.istore 4, 2) := by decide +kernel
theorem dL_isAhead_37 : decode cL_isAhead 37 = .ok (.iconst 0, 1) := by decide +kernel
theorem dL_isAhead_38 : decode cL_isAhead 38 = .ok (.istore 5, 2) := by decide +kernel
theorem dL_isAhead_40 : decode cL_isAhead 40 = .ok (.iload 5, 2) := by decide +kernel
theorem dL_isAhead_42 : decode cL_isAhead 42 = .ok (.aload_n 0, 1) := by decide +kernel
theorem dL_isAhead_43 : decode cL_isAhead 43 = .ok (.invokevirtual 63, 3) := by decide +kernel
theorem dL_isAhead_46 : decode cL_isAhead 46 = .ok (.if_icmp .ge 161, 3) := by decide +kernel
theorem dL_isAhead_49 : decode cL_isAhead 49 = .ok (.aload_n 0, 1) := by decide +kernel
theorem dL_isAhead_50 : decode cL_isAhead 50 = .ok (.iload 5, 2) := by decide +kernel
theorem dL_isAhead_52 : decode cL_isAhead 52 = .ok (.iload_n 1, 1) := by decide +kernel
theorem dL_isAhead_53 : decode cL_isAhead 53 = .ok (.invokevirtual 69, 3) := by decide +kernel
theorem dL_isAhead_56 : decode cL_isAhead 56 = .ok (.istore 6, 2) := by decide +kernel
theorem dL_isAhead_58 : decode cL_isAhead 58 = .ok (.aload_n 0, 1) := by decide +kernel
theorem dL_isAhead_59 : decode cL_isAhead 59 = .ok (.iload 5, 2) := by decide +kernel
theorem dL_isAhead_61 : decode cL_isAhead 61 = .ok (.invokevirtual 37, 3) := by decide +kernel
theorem dL_isAhead_64 : decode cL_isAhead 64 = .ok (.ifCond .ne 16, 3) := by decide +kernel
theorem dL_isAhead_67 : decode cL_isAhead 67 = .ok (.iload 5, 2) := by decide +kernel
theorem dL_isAhead_69 : decode cL_isAhead 69 = .ok (.aload_n 0, 1) := by decide +kernel
theorem dL_isAhead_70 : decode cL_isAhead 70 = .ok (.invokevirtual 33, 3) := by decide +kernel
theorem dL_isAhead_73 : decode cL_isAhead 73 = .ok (.if_icmp .eq 7, 3) := by decide +kernel
theorem dL_isAhead_76 : decode cL_isAhead 76 = .ok (.iconst 1, 1) := by decide +kernel
theorem dL_isAhead_77 : decode cL_isAhead 77 = .ok (.goto 4, 3) := by decide +kernel
theorem dL_isAhead_80 : decode cL_isAhead 80 = .ok (.iconst 0, 1) := by decide +kernel
theorem dL_isAhead_81 : decode cL_isAhead 81 = .ok (.istore 7, 2) := by decide +kernel
theorem dL_isAhead_83 : decode cL_isAhead 83 = .ok (.iload_n 3, 1) := by decide +kernel
theorem dL_isAhead_84 : decode cL_isAhead 84 = .ok (.iload 6, 2) := by decide +kernel
theorem dL_isAhead_86 : decode cL_isAhead 86 = .ok (.iadd, 1) := by decide +kernel
theorem dL_isAhead_87 : decode cL_isAhead 87 = .ok (.istore_n 3, 1) := by decide +kernel
theorem dL_isAhead_88 : decode cL_isAhead 88 = .ok (.iload 4, 2) := by decide +kernel
theorem dL_isAhead_90 : decode cL_isAhead 90 = .ok (.iload 6, 2) := by decide +kernel
theorem dL_isAhead_92 : decode cL_isAhead 92 = .ok (.ifCond .le 18, 3) := by decide +kernel
theorem dL_isAhead_95 : decode cL_isAhead 95 = .ok (.iload 6, 2) := by decide +kernel
theorem dL_isAhead_97 : decode cL_isAhead 97 = .ok (.aload_n 0, 1) := by decide +kernel
theorem dL_isAhead_98 : decode cL_isAhead 98 = .ok (.iload 5, 2) := by decide +kernel
theorem dL_isAhead_100 : decode cL_isAhead 100 = .ok (.invokevirtual 11, 3) := by decide +kernel
theorem dL_isAhead_103 : decode cL_isAhead 103 = .ok (.if_icmp .ne 7, 3) := by decide +kernel
theorem dL_isAhead_106 : decode cL_isAhead 106 = .ok (.iconst 1, 1) := by decide +kernel
theorem dL_isAhead_107 : decode cL_isAhead 107 = .ok (.goto 4, 3) := by decide +kernel
theorem dL_isAhead_110 : decode cL_isAhead 110 = .ok (.iconst 0, 1) := by decide +kernel
theorem dL_isAhead_111 : decode cL_isAhead 111 = .ok (.iadd, 1) := by decide +kernel
theorem dL_isAhead_112 : decode cL_isAhead 112 = .ok (.istore 4, 2) := by decide +kernel
theorem dL_isAhead_114 : decode cL_isAhead 114 = .ok (.iload_n 2, 1) := by decide +kernel
theorem dL_isAhead_115 : decode cL_isAhead 115 = .ok (.ifCond .eq 84, 3) := by decide +kernel
theorem dL_isAhead_118 : decode cL_isAhead 118 = .ok (.iload 6, 2) := by decide +kernel
theorem dL_isAhead_120 : decode cL_isAhead 120 = .ok (.aload_n 0, 1) := by decide +kernel
theorem dL_isAhead_121 : decode cL_isAhead 121 = .ok (.iload 5, 2) := by decide +kernel
theorem dL_isAhead_123 : decode cL_isAhead 123 = .ok (.invokevirtual 11, 3) := by decide +kernel
theorem dL_isAhead_126 : decode cL_isAhead 126 = .ok (.if_icmp .gt 73, 3) := by decide +kernel
