theorem dX0_init_0 : decode cX0_init 0 = .ok (.aload_n 0, 1) := by decide +kernel
theorem dX0_init_1 : decode cX0_init 1 = .ok (.invokespecial 3, 3) := by decide +kernel
theorem dX0_init_4 : decode cX0_init 4 = .ok (.aload_n 0, 1) := by decide +kernel
theorem dX0_init_5 : decode cX0_init 5 = .ok (.bipush 60, 2) := by decide +kernel
theorem dX0_init_7 : decode cX0_init 7 = .ok (.newarray .int, 2) := by decide +kernel
theorem dX0_init_9 : decode cX0_init 9 = .ok (.putfield 9, 3) := by decide +kernel
theorem dX0_init_12 : decode cX0_init 12 = .ok (.aload_n 0, 1) := by decide +kernel
theorem dX0_init_13 : decode cX0_init 13 = .ok (.iconst 0, 1) := by decide +kernel
theorem dX0_init_14 : decode cX0_init 14 = .ok (.putfield 15, 3) := by decide +kernel
theorem dX0_init_17 : decode cX0_init 17 = .ok (.return_, 1) := by decide +kernel
theorem dX0_add_0 : decode cX0_add 0 = .ok (.aload_n 0, 1) := by decide +kernel
theorem dX0_add_1 : decode cX0_add 1 = .ok (.getfield 9, 3) := by decide +kernel
theorem dX0_add_4 : decode cX0_add 4 = .ok (.aload_n 0, 1) := by decide +kernel
theorem dX0_add_5 : decode cX0_add 5 = .ok (.getfield 15, 3) := by decide +kernel
theorem dX0_add_8 : decode cX0_add 8 = .ok (.iload_n 1, 1) := by decide +kernel
theorem dX0_add_9 : decode cX0_add 9 = .ok (.invokestatic 19, 3) := by decide +kernel
theorem dX0_add_12 : decode cX0_add 12 = .ok (.aload_n 0, 1) := by decide +kernel
theorem dX0_add_13 : decode cX0_add 13 = .ok (.dup, 1) := by decide +kernel
theorem dX0_add_14 : decode cX0_add 14 = .ok (.getfield 15, 3) := by decide +kernel
theorem dX0_add_17 : decode cX0_add 17 = .ok (.iconst 1, 1) := by decide +kernel
theorem dX0_add_18 : decode cX0_add 18 = .ok (.iadd, 1) := by decide +kernel
theorem dX0_add_19 : decode cX0_add 19 = .ok (.putfield 15, 3) := by decide +kernel
theorem dX0_add_22 : decode cX0_add 22 = .ok (.return_, 1) := by decide +kernel
theorem dX0_errorIndex_0 : decode cX0_errorIndex 0 = .ok (.iconst 0, 1) := by decide +kernel
theorem dX0_errorIndex_1 : decode cX0_errorIndex 1 = .ok (.istore_n 1, 1) := by decide +kernel
theorem dX0_errorIndex_2 : decode cX0_errorIndex 2 = .ok (.iconst 0, 1) := by decide +kernel
theorem dX0_errorIndex_3 : decode cX0_errorIndex 3 = .ok (.istore_n 2, 1) := by decide +kernel
theorem dX0_errorIndex_4 : decode cX0_errorIndex 4 = .ok (.iload_n 2, 1) := by decide +kernel
theorem dX0_errorIndex_5 : decode cX0_errorIndex 5 = .ok (.aload_n 0, 1) := by decide +kernel
theorem dX0_errorIndex_6 : decode cX0_errorIndex 6 = .ok (.getfield 15, 3) := by decide +kernel
theorem dX0_errorIndex_9 : decode cX0_errorIndex 9 = .ok (.if_icmp .ge 29, 3) := by decide +kernel
theorem dX0_errorIndex_12 : decode cX0_errorIndex 12 = .ok (.iload_n 1, 1) := by decide +kernel
theorem dX0_errorIndex_13 : decode cX0_errorIndex 13 = .ok (.aload_n 0, 1) := by decide +kernel
theorem dX0_errorIndex_14 : decode cX0_errorIndex 14 = .ok (.getfield 9, 3) := by decide +kernel
theorem dX0_errorIndex_17 : decode cX0_errorIndex 17 = .ok (.iload_n 2, 1) := by decide +kernel
theorem dX0_errorIndex_18 : decode cX0_errorIndex 18 = .ok (.invokestatic 23, 3) := by decide +kernel
theorem dX0_errorIndex_21 : decode cX0_errorIndex 21 = .ok (.invokestatic 27, 3) := by decide +kernel
theorem dX0_errorIndex_24 : decode cX0_errorIndex 24 = .ok (.istore_n 1, 1) := by decide +kernel
theorem dX0_errorIndex_25 : decode cX0_errorIndex 25 = .ok (.iload_n 1, 1) := by decide +kernel
theorem dX0_errorIndex_26 : decode cX0_errorIndex 26 = .ok (.iconst (-1), 1) := by decide +kernel
theorem dX0_errorIndex_27 : decode cX0_errorIndex 27 = .ok (.if_icmp .ne 5, 3) := by decide +kernel
theorem dX0_errorIndex_30 : decode cX0_errorIndex 30 = .ok (.iload_n 2, 1) := by decide +kernel
theorem dX0_errorIndex_31 : decode cX0_errorIndex 31 = .ok (.ireturn, 1) := by decide +kernel
theorem dX0_errorIndex_32 : decode cX0_errorIndex 32 = .ok (.iinc 2 1, 3) := by decide +kernel
theorem dX0_errorIndex_35 : decode cX0_errorIndex 35 = .ok (.goto (-31), 3) := by decide +kernel
theorem dX0_errorIndex_38 : decode cX0_errorIndex 38 = .ok (.aload_n 0, 1) := by decide +kernel
theorem dX0_errorIndex_39 : decode cX0_errorIndex 39 = .ok (.getfield 15, 3) := by decide +kernel
theorem dX0_errorIndex_42 : decode cX0_errorIndex 42 = .ok (.ireturn, 1) := by decide +kernel
theorem dX0_isComplete_0 : decode cX0_isComplete 0 = .ok (.iconst 0, 1) := by decide +kernel
theorem dX0_isComplete_1 : decode cX0_isComplete 1 = .ok (.istore_n 1, 1) := by decide +kernel
theorem dX0_isComplete_2 : decode cX0_isComplete 2 = .ok (.iconst 0, 1) := by decide +kernel
theorem dX0_isComplete_3 : decode cX0_isComplete 3 = .ok (.istore_n 2, 1) := by decide +kernel
theorem dX0_isComplete_4 : decode cX0_isComplete 4 = .ok (.iload_n 2, 1) := by decide +kernel
theorem dX0_isComplete_5 : decode cX0_isComplete 5 = .ok (.aload_n 0, 1) := by decide +kernel
theorem dX0_isComplete_6 : decode cX0_isComplete 6 = .ok (.getfield 15, 3) := by decide +kernel
theorem dX0_isComplete_9 : decode cX0_isComplete 9 = .ok (.if_icmp .ge 22, 3) := by decide +kernel
theorem dX0_isComplete_12 : decode cX0_isComplete 12 = .ok (.iload_n 1, 1) := by decide +kernel
theorem dX0_isComplete_13 : decode cX0_isComplete 13 = .ok (.aload_n 0, 1) := by decide +kernel
theorem dX0_isComplete_14 : decode cX0_isComplete 14 = .ok (.getfield 9, 3) := by decide +kernel
theorem dX0_isComplete_17 : decode cX0_isComplete 17 = .ok (.iload_n 2, 1) := by decide +kernel
theorem dX0_isComplete_18 : decode cX0_isComplete 18 = .ok (.invokestatic 23, 3) := by decide +kernel
theorem dX0_isComplete_21 : decode cX0_isComplete 21 = .ok (.invokestatic 27, 3) := by decide +kernel
theorem dX0_isComplete_24 : decode cX0_isComplete 24 = .ok (.istore_n 1, 1) := by decide +kernel
theorem dX0_isComplete_25 : decode cX0_isComplete 25 = .ok (.iinc 2 1, 3) := by decide +kernel
theorem dX0_isComplete_28 : decode cX0_isComplete 28 = .ok (.goto (-24), 3) := by decide +kernel
theorem dX0_isComplete_31 : decode cX0_isComplete 31 = .ok (.iload_n 1, 1) := by decide +kernel
theorem dX0_isComplete_32 : decode cX0_isComplete 32 = .ok (.iconst 1, 1) := by decide +kernel
theorem dX0_isComplete_33 : decode cX0_isComplete 33 = .ok (.if_icmp .eq 8, 3) := by decide +kernel
theorem dX0_isComplete_36 : decode cX0_isComplete 36 = .ok (.iload_n 1, 1) := by decide +kernel
theorem dX0_isComplete_37 : decode cX0_isComplete 37 = .ok (.iconst 3, 1) := by decide +kernel
theorem dX0_isComplete_38 : decode cX0_isComplete 38 = .ok (.if_icmp .ne 7, 3) := by decide +kernel
theorem dX0_isComplete_41 : decode cX0_isComplete 41 = .ok (.iconst 1, 1) := by decide +kernel
theorem dX0_isComplete_42 : decode cX0_isComplete 42 = .ok (.goto 4, 3) := by decide +kernel
theorem dX0_isComplete_45 : decode cX0_isComplete 45 = .ok (.iconst 0, 1) := by decide +kernel
theorem dX0_isComplete_46 : decode cX0_isComplete 46 = .ok (.ireturn, 1) := by decide +kernel
theorem dX0_stageAfter_0 : decode cX0_stageAfter 0 = .ok (.iload_n 0, 1) := by decide +kernel
theorem dX0_stageAfter_1 : decode cX0_stageAfter 1 = .ok (.tableswitch 233 0 9 #[55, 60, 72, 99, 126, 131, 159, 187, 199, 216], 55) := by decide +kernel
theorem dX0_stageAfter_56 : decode cX0_stageAfter 56 = .ok (.iload_n 1, 1) := by decide +kernel
theorem dX0_stageAfter_57 : decode cX0_stageAfter 57 = .ok (.invokestatic 31, 3) := by decide +kernel
theorem dX0_stageAfter_60 : decode cX0_stageAfter 60 = .ok (.ireturn, 1) := by decide +kernel
theorem dX0_stageAfter_61 : decode cX0_stageAfter 61 = .ok (.iload_n 1, 1) := by decide +kernel
theorem dX0_stageAfter_62 : decode cX0_stageAfter 62 = .ok (.bipush 59, 2) := by decide +kernel
theorem dX0_stageAfter_64 : decode cX0_stageAfter 64 = .ok (.if_icmp .ne 7, 3) := by decide +kernel
theorem dX0_stageAfter_67 : decode cX0_stageAfter 67 = .ok (.iconst 0, 1) := by decide +kernel
theorem dX0_stageAfter_68 : decode cX0_stageAfter 68 = .ok (.goto 4, 3) := by decide +kernel
theorem dX0_stageAfter_71 : decode cX0_stageAfter 71 = .ok (.iconst (-1), 1) := by decide +kernel
theorem dX0_stageAfter_72 : decode cX0_stageAfter 72 = .ok (.ireturn, 1) := by decide +kernel
theorem dX0_stageAfter_73 : decode cX0_stageAfter 73 = .ok (.iload_n 1, 1) := by decide +kernel
theorem dX0_stageAfter_74 : decode cX0_stageAfter 74 = .ok (.bipush 48, 2) := by decide +kernel
theorem dX0_stageAfter_76 : decode cX0_stageAfter 76 = .ok (.if_icmp .ne 7, 3) := by decide +kernel
theorem dX0_stageAfter_79 : decode cX0_stageAfter 79 = .ok (.iconst 1, 1) := by decide +kernel
theorem dX0_stageAfter_80 : decode cX0_stageAfter 80 = .ok (.goto 19, 3) := by decide +kernel
theorem dX0_stageAfter_83 : decode cX0_stageAfter 83 = .ok (.iload_n 1, 1) := by decide +kernel
theorem dX0_stageAfter_84 : decode cX0_stageAfter 84 = .ok (.bipush 49, 2) := by decide +kernel
theorem dX0_stageAfter_86 : decode cX0_stageAfter 86 = .ok (.bipush 57, 2) := by decide +kernel
theorem dX0_stageAfter_88 : decode cX0_stageAfter 88 = .ok (.invokestatic 35, 3) := by decide +kernel
theorem dX0_stageAfter_91 : decode cX0_stageAfter 91 = .ok (.ifCond .eq 7, 3) := by decide +kernel
theorem dX0_stageAfter_94 : decode cX0_stageAfter 94 = .ok (.iconst 3, 1) := by decide +kernel
theorem dX0_stageAfter_95 : decode cX0_stageAfter 95 = .ok (.goto 4, 3) := by decide +kernel
theorem dX0_stageAfter_98 : decode cX0_stageAfter 98 = .ok (.iconst (-1), 1) := by decide +kernel
theorem dX0_stageAfter_99 : decode cX0_stageAfter 99 = .ok (.ireturn, 1) := by decide +kernel
theorem dX0_stageAfter_100 : decode cX0_stageAfter 100 = .ok (.iload_n 1, 1) := by decide +kernel
theorem dX0_stageAfter_101 : decode cX0_stageAfter 101 = .ok (.bipush 59, 2) := by decide +kernel
theorem dX0_stageAfter_103 : decode cX0_stageAfter 103 = .ok (.if_icmp .ne 7, 3) := by decide +kernel
theorem dX0_stageAfter_106 : decode cX0_stageAfter 106 = .ok (.iconst 0, 1) := by decide +kernel
theorem dX0_stageAfter_107 : decode cX0_stageAfter 107 = .ok (.goto 19, 3) := by decide +kernel
theorem dX0_stageAfter_110 : decode cX0_stageAfter 110 = .ok (.iload_n 1, 1) := by decide +kernel
theorem dX0_stageAfter_111 : decode cX0_stageAfter 111 = .ok (.bipush 48, 2) := by decide +kernel
theorem dX0_stageAfter_113 : decode cX0_stageAfter 113 = .ok (.bipush 57, 2) := by decide +kernel
theorem dX0_stageAfter_115 : decode cX0_stageAfter 115 = .ok (.invokestatic 35, 3) := by decide +kernel
theorem dX0_stageAfter_118 : decode cX0_stageAfter 118 = .ok (.ifCond .eq 7, 3) := by decide +kernel
theorem dX0_stageAfter_121 : decode cX0_stageAfter 121 = .ok (.iconst 1, 1) := by decide +kernel
theorem dX0_stageAfter_122 : decode cX0_stageAfter 122 = .ok (.goto 4, 3) := by decide +kernel
theorem dX0_stageAfter_125 : decode cX0_stageAfter 125 = .ok (.iconst (-1), 1) := by decide +kernel
theorem dX0_stageAfter_126 : decode cX0_stageAfter 126 = .ok (.ireturn, 1) := by decide +kernel
theorem dX0_stageAfter_127 : decode cX0_stageAfter 127 = .ok (.iload_n 1, 1) := by decide +kernel
theorem dX0_stageAfter_128 : decode cX0_stageAfter 128 = .ok (.invokestatic 39, 3) := by decide +kernel
theorem dX0_stageAfter_131 : decode cX0_stageAfter 131 = .ok (.ireturn, 1) := by decide +kernel
theorem dX0_stageAfter_132 : decode cX0_stageAfter 132 = .ok (.iload_n 1, 1) := by decide +kernel
theorem dX0_stageAfter_133 : decode cX0_stageAfter 133 = .ok (.bipush 61, 2) := by decide +kernel
theorem dX0_stageAfter_135 : decode cX0_stageAfter 135 = .ok (.if_icmp .ne 7, 3) := by decide +kernel
theorem dX0_stageAfter_138 : decode cX0_stageAfter 138 = .ok (.iconst 2, 1) := by decide +kernel
theorem dX0_stageAfter_139 : decode cX0_stageAfter 139 = .ok (.goto 20, 3) := by decide +kernel
theorem dX0_stageAfter_142 : decode cX0_stageAfter 142 = .ok (.iload_n 1, 1) := by decide +kernel
theorem dX0_stageAfter_143 : decode cX0_stageAfter 143 = .ok (.bipush 48, 2) := by decide +kernel
theorem dX0_stageAfter_145 : decode cX0_stageAfter 145 = .ok (.bipush 57, 2) := by decide +kernel
theorem dX0_stageAfter_147 : decode cX0_stageAfter 147 = .ok (.invokestatic 35, 3) := by decide +kernel
theorem dX0_stageAfter_150 : decode cX0_stageAfter 150 = .ok (.ifCond .eq 8, 3) := by decide +kernel
theorem dX0_stageAfter_153 : decode cX0_stageAfter 153 = .ok (.bipush 7, 2) := by decide +kernel
theorem dX0_stageAfter_155 : decode cX0_stageAfter 155 = .ok (.goto 4, 3) := by decide +kernel
theorem dX0_stageAfter_158 : decode cX0_stageAfter 158 = .ok (.iconst (-1), 1) := by decide +kernel
theorem dX0_stageAfter_159 : decode cX0_stageAfter 159 = .ok (.ireturn, 1) := by decide +kernel
theorem dX0_stageAfter_160 : decode cX0_stageAfter 160 = .ok (.iload_n 1, 1) := by decide +kernel
theorem dX0_stageAfter_161 : decode cX0_stageAfter 161 = .ok (.bipush 61, 2) := by decide +kernel
theorem dX0_stageAfter_163 : decode cX0_stageAfter 163 = .ok (.if_icmp .ne 7, 3) := by decide +kernel
theorem dX0_stageAfter_166 : decode cX0_stageAfter 166 = .ok (.iconst 2, 1) := by decide +kernel
theorem dX0_stageAfter_167 : decode cX0_stageAfter 167 = .ok (.goto 20, 3) := by decide +kernel
theorem dX0_stageAfter_170 : decode cX0_stageAfter 170 = .ok (.iload_n 1, 1) := by decide +kernel
theorem dX0_stageAfter_171 : decode cX0_stageAfter 171 = .ok (.bipush 48, 2) := by decide +kernel
theorem dX0_stageAfter_173 : decode cX0_stageAfter 173 = .ok (.bipush 50, 2) := by decide +kernel
theorem dX0_stageAfter_175 : decode cX0_stageAfter 175 = .ok (.invokestatic 35, 3) := by decide +kernel
theorem dX0_stageAfter_178 : decode cX0_stageAfter 178 = .ok (.ifCond .eq 8, 3) := by decide +kernel
theorem dX0_stageAfter_181 : decode cX0_stageAfter 181 = .ok (.bipush 7, 2) := by decide +kernel
theorem dX0_stageAfter_183 : decode cX0_stageAfter 183 = .ok (.goto 4, 3) := by decide +kernel
theorem dX0_stageAfter_186 : decode cX0_stageAfter 186 = .ok (.iconst (-1), 1) := by decide +kernel
theorem dX0_stageAfter_187 : decode cX0_stageAfter 187 = .ok (.ireturn, 1) := by decide +kernel
theorem dX0_stageAfter_188 : decode cX0_stageAfter 188 = .ok (.iload_n 1, 1) := by decide +kernel
theorem dX0_stageAfter_189 : decode cX0_stageAfter 189 = .ok (.bipush 61, 2) := by decide +kernel
theorem dX0_stageAfter_191 : decode cX0_stageAfter 191 = .ok (.if_icmp .ne 7, 3) := by decide +kernel
theorem dX0_stageAfter_194 : decode cX0_stageAfter 194 = .ok (.iconst 2, 1) := by decide +kernel
theorem dX0_stageAfter_195 : decode cX0_stageAfter 195 = .ok (.goto 4, 3) := by decide +kernel
theorem dX0_stageAfter_198 : decode cX0_stageAfter 198 = .ok (.iconst (-1), 1) := by decide +kernel
theorem dX0_stageAfter_199 : decode cX0_stageAfter 199 = .ok (.ireturn, 1) := by decide +kernel
theorem dX0_stageAfter_200 : decode cX0_stageAfter 200 = .ok (.iload_n 1, 1) := by decide +kernel
theorem dX0_stageAfter_201 : decode cX0_stageAfter 201 = .ok (.bipush 48, 2) := by decide +kernel
theorem dX0_stageAfter_203 : decode cX0_stageAfter 203 = .ok (.bipush 57, 2) := by decide +kernel
theorem dX0_stageAfter_205 : decode cX0_stageAfter 205 = .ok (.invokestatic 35, 3) := by decide +kernel
theorem dX0_stageAfter_208 : decode cX0_stageAfter 208 = .ok (.ifCond .eq 7, 3) := by decide +kernel
theorem dX0_stageAfter_211 : decode cX0_stageAfter 211 = .ok (.iconst 1, 1) := by decide +kernel
theorem dX0_stageAfter_212 : decode cX0_stageAfter 212 = .ok (.goto 4, 3) := by decide +kernel
theorem dX0_stageAfter_215 : decode cX0_stageAfter 215 = .ok (.iconst (-1), 1) := by decide +kernel
theorem dX0_stageAfter_216 : decode cX0_stageAfter 216 = .ok (.ireturn, 1) := by decide +kernel
theorem dX0_stageAfter_217 : decode cX0_stageAfter 217 = .ok (.iload_n 1, 1) := by decide +kernel
theorem dX0_stageAfter_218 : decode cX0_stageAfter 218 = .ok (.bipush 49, 2) := by decide +kernel
theorem dX0_stageAfter_220 : decode cX0_stageAfter 220 = .ok (.bipush 57, 2) := by decide +kernel
theorem dX0_stageAfter_222 : decode cX0_stageAfter 222 = .ok (.invokestatic 35, 3) := by decide +kernel
theorem dX0_stageAfter_225 : decode cX0_stageAfter 225 = .ok (.ifCond .eq 7, 3) := by decide +kernel
theorem dX0_stageAfter_228 : decode cX0_stageAfter 228 = .ok (.iconst 1, 1) := by decide +kernel
theorem dX0_stageAfter_229 : decode cX0_stageAfter 229 = .ok (.goto 4, 3) := by decide +kernel
theorem dX0_stageAfter_232 : decode cX0_stageAfter 232 = .ok (.iconst (-1), 1) := by decide +kernel
theorem dX0_stageAfter_233 : decode cX0_stageAfter 233 = .ok (.ireturn, 1) := by decide +kernel
theorem dX0_stageAfter_234 : decode cX0_stageAfter 234 = .ok (.iconst (-1), 1) := by decide +kernel
theorem dX0_stageAfter_235 : decode cX0_stageAfter 235 = .ok (.ireturn, 1) := by decide +kernel
theorem dX0_stageAfterLetter_0 : decode cX0_stageAfterLetter 0 = .ok (.iload_n 0, 1) := by decide +kernel
theorem dX0_stageAfterLetter_1 : decode cX0_stageAfterLetter 1 = .ok (.tableswitch 107 98 117 #[95, 107, 107, 101, 101, 101, 95, 107, 107, 104, 107, 107, 107, 107, 95, 107, 99, 97, 107, 101], 95) := by decide +kernel
theorem dX0_stageAfterLetter_96 : decode cX0_stageAfterLetter 96 = .ok (.iconst 1, 1) := by decide +kernel
theorem dX0_stageAfterLetter_97 : decode cX0_stageAfterLetter 97 = .ok (.ireturn, 1) := by decide +kernel
theorem dX0_stageAfterLetter_98 : decode cX0_stageAfterLetter 98 = .ok (.iconst 2, 1) := by decide +kernel
theorem dX0_stageAfterLetter_99 : decode cX0_stageAfterLetter 99 = .ok (.ireturn, 1) := by decide +kernel
theorem dX0_stageAfterLetter_100 : decode cX0_stageAfterLetter 100 = .ok (.iconst 4, 1) := by decide +kernel
theorem dX0_stageAfterLetter_101 : decode cX0_stageAfterLetter 101 = .ok (.ireturn, 1) := by decide +kernel
theorem dX0_stageAfterLetter_102 : decode cX0_stageAfterLetter 102 = .ok (.bipush 8, 2) := by decide +kernel
theorem dX0_stageAfterLetter_104 : decode cX0_stageAfterLetter 104 = .ok (.ireturn, 1) := by decide +kernel
theorem dX0_stageAfterLetter_105 : decode cX0_stageAfterLetter 105 = .ok (.bipush 9, 2) := by decide +kernel
theorem dX0_stageAfterLetter_107 : decode cX0_stageAfterLetter 107 = .ok (.ireturn, 1) := by decide +kernel
theorem dX0_stageAfterLetter_108 : decode cX0_stageAfterLetter 108 = .ok (.iconst (-1), 1) := by decide +kernel
theorem dX0_stageAfterLetter_109 : decode cX0_stageAfterLetter 109 = .ok (.ireturn, 1) := by decide +kernel
theorem dX0_stageAfterFirstOfTimes_0 : decode cX0_stageAfterFirstOfTimes 0 = .ok (.iload_n 0, 1) := by decide +kernel
theorem dX0_stageAfterFirstOfTimes_1 : decode cX0_stageAfterFirstOfTimes 1 = .ok (.bipush 49, 2) := by decide +kernel
theorem dX0_stageAfterFirstOfTimes_3 : decode cX0_stageAfterFirstOfTimes 3 = .ok (.bipush 50, 2) := by decide +kernel
theorem dX0_stageAfterFirstOfTimes_5 : decode cX0_stageAfterFirstOfTimes 5 = .ok (.invokestatic 35, 3) := by decide +kernel
theorem dX0_stageAfterFirstOfTimes_8 : decode cX0_stageAfterFirstOfTimes 8 = .ok (.ifCond .eq 5, 3) := by decide +kernel
theorem dX0_stageAfterFirstOfTimes_11 : decode cX0_stageAfterFirstOfTimes 11 = .ok (.iconst 5, 1) := by decide +kernel
theorem dX0_stageAfterFirstOfTimes_12 : decode cX0_stageAfterFirstOfTimes 12 = .ok (.ireturn, 1) := by decide +kernel
theorem dX0_stageAfterFirstOfTimes_13 : decode cX0_stageAfterFirstOfTimes 13 = .ok (.iload_n 0, 1) := by decide +kernel
theorem dX0_stageAfterFirstOfTimes_14 : decode cX0_stageAfterFirstOfTimes 14 = .ok (.bipush 51, 2) := by decide +kernel
theorem dX0_stageAfterFirstOfTimes_16 : decode cX0_stageAfterFirstOfTimes 16 = .ok (.if_icmp .ne 6, 3) := by decide +kernel
theorem dX0_stageAfterFirstOfTimes_19 : decode cX0_stageAfterFirstOfTimes 19 = .ok (.bipush 6, 2) := by decide +kernel
theorem dX0_stageAfterFirstOfTimes_21 : decode cX0_stageAfterFirstOfTimes 21 = .ok (.ireturn, 1) := by decide +kernel
theorem dX0_stageAfterFirstOfTimes_22 : decode cX0_stageAfterFirstOfTimes 22 = .ok (.iload_n 0, 1) := by decide +kernel
theorem dX0_stageAfterFirstOfTimes_23 : decode cX0_stageAfterFirstOfTimes 23 = .ok (.bipush 52, 2) := by decide +kernel
theorem dX0_stageAfterFirstOfTimes_25 : decode cX0_stageAfterFirstOfTimes 25 = .ok (.bipush 57, 2) := by decide +kernel
theorem dX0_stageAfterFirstOfTimes_27 : decode cX0_stageAfterFirstOfTimes 27 = .ok (.invokestatic 35, 3) := by decide +kernel
theorem dX0_stageAfterFirstOfTimes_30 : decode cX0_stageAfterFirstOfTimes 30 = .ok (.ifCond .eq 8, 3) := by decide +kernel
theorem dX0_stageAfterFirstOfTimes_33 : decode cX0_stageAfterFirstOfTimes 33 = .ok (.bipush 7, 2) := by decide +kernel
theorem dX0_stageAfterFirstOfTimes_35 : decode cX0_stageAfterFirstOfTimes 35 = .ok (.goto 4, 3) := by decide +kernel
theorem dX0_stageAfterFirstOfTimes_38 : decode cX0_stageAfterFirstOfTimes 38 = .ok (.iconst (-1), 1) := by decide +kernel
theorem dX0_stageAfterFirstOfTimes_39 : decode cX0_stageAfterFirstOfTimes 39 = .ok (.ireturn, 1) := by decide +kernel
theorem dX0_isIn_0 : decode cX0_isIn 0 = .ok (.iload_n 0, 1) := by decide +kernel
theorem dX0_isIn_1 : decode cX0_isIn 1 = .ok (.iload_n 1, 1) := by decide +kernel
theorem dX0_isIn_2 : decode cX0_isIn 2 = .ok (.if_icmp .lt 12, 3) := by decide +kernel
theorem dX0_isIn_5 : decode cX0_isIn 5 = .ok (.iload_n 0, 1) := by decide +kernel
theorem dX0_isIn_6 : decode cX0_isIn 6 = .ok (.iload_n 2, 1) := by decide +kernel
theorem dX0_isIn_7 : decode cX0_isIn 7 = .ok (.if_icmp .gt 7, 3) := by decide +kernel
theorem dX0_isIn_10 : decode cX0_isIn 10 = .ok (.iconst 1, 1) := by decide +kernel
theorem dX0_isIn_11 : decode cX0_isIn 11 = .ok (.goto 4, 3) := by decide +kernel
theorem dX0_isIn_14 : decode cX0_isIn 14 = .ok (.iconst 0, 1) := by decide +kernel
theorem dX0_isIn_15 : decode cX0_isIn 15 = .ok (.ireturn, 1) := by decide +kernel
