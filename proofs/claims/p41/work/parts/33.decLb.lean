theorem dL_isAhead_129 : decode cL_isAhead 129 = .ok (.iload 7, 2) := by decide +kernel
theorem dL_isAhead_131 : decode cL_isAhead 131 = .ok (.ifCond .ne 8, 3) := by decide +kernel
theorem dL_isAhead_134 : decode cL_isAhead 134 = .ok (.iload 6, 2) := by decide +kernel
theorem dL_isAhead_136 : decode cL_isAhead 136 = .ok (.ifCond .ne 63, 3) := by decide +kernel
theorem dL_isAhead_139 : decode cL_isAhead 139 = .ok (.aload_n 0, 1) := by decide +kernel
theorem dL_isAhead_140 : decode cL_isAhead 140 = .ok (.iload 5, 2) := by decide +kernel
theorem dL_isAhead_142 : decode cL_isAhead 142 = .ok (.bipush 32, 2) := by decide +kernel
theorem dL_isAhead_144 : decode cL_isAhead 144 = .ok (.invokevirtual 69, 3) := by decide +kernel
theorem dL_isAhead_147 : decode cL_isAhead 147 = .ok (.iload 7, 2) := by decide +kernel
theorem dL_isAhead_149 : decode cL_isAhead 149 = .ok (.ifCond .eq 12, 3) := by decide +kernel
theorem dL_isAhead_152 : decode cL_isAhead 152 = .ok (.aload_n 0, 1) := by decide +kernel
theorem dL_isAhead_153 : decode cL_isAhead 153 = .ok (.iload 5, 2) := by decide +kernel
theorem dL_isAhead_155 : decode cL_isAhead 155 = .ok (.invokevirtual 11, 3) := by decide +kernel
theorem dL_isAhead_158 : decode cL_isAhead 158 = .ok (.goto 4, 3) := by decide +kernel
theorem dL_isAhead_161 : decode cL_isAhead 161 = .ok (.iconst 0, 1) := by decide +kernel
theorem dL_isAhead_162 : decode cL_isAhead 162 = .ok (.if_icmp .ne 37, 3) := by decide +kernel
theorem dL_isAhead_165 : decode cL_isAhead 165 = .ok (.aload_n 0, 1) := by decide +kernel
theorem dL_isAhead_166 : decode cL_isAhead 166 = .ok (.iload 5, 2) := by decide +kernel
theorem dL_isAhead_168 : decode cL_isAhead 168 = .ok (.iload_n 1, 1) := by decide +kernel
theorem dL_isAhead_169 : decode cL_isAhead 169 = .ok (.invokevirtual 69, 3) := by decide +kernel
theorem dL_isAhead_172 : decode cL_isAhead 172 = .ok (.aload_n 0, 1) := by decide +kernel
theorem dL_isAhead_173 : decode cL_isAhead 173 = .ok (.iload 5, 2) := by decide +kernel
theorem dL_isAhead_175 : decode cL_isAhead 175 = .ok (.iload_n 1, 1) := by decide +kernel
theorem dL_isAhead_176 : decode cL_isAhead 176 = .ok (.bipush 32, 2) := by decide +kernel
theorem dL_isAhead_178 : decode cL_isAhead 178 = .ok (.if_icmp .ge 9, 3) := by decide +kernel
theorem dL_isAhead_181 : decode cL_isAhead 181 = .ok (.iload_n 1, 1) := by decide +kernel
theorem dL_isAhead_182 : decode cL_isAhead 182 = .ok (.iconst 1, 1) := by decide +kernel
theorem dL_isAhead_183 : decode cL_isAhead 183 = .ok (.iadd, 1) := by decide +kernel
theorem dL_isAhead_184 : decode cL_isAhead 184 = .ok (.goto 5, 3) := by decide +kernel
theorem dL_isAhead_187 : decode cL_isAhead 187 = .ok (.bipush 32, 2) := by decide +kernel
theorem dL_isAhead_189 : decode cL_isAhead 189 = .ok (.invokevirtual 69, 3) := by decide +kernel
theorem dL_isAhead_192 : decode cL_isAhead 192 = .ok (.if_icmp .gt 7, 3) := by decide +kernel
theorem dL_isAhead_195 : decode cL_isAhead 195 = .ok (.iconst 1, 1) := by decide +kernel
theorem dL_isAhead_196 : decode cL_isAhead 196 = .ok (.goto 4, 3) := by decide +kernel
theorem dL_isAhead_199 : decode cL_isAhead 199 = .ok (.iconst 0, 1) := by decide +kernel
theorem dL_isAhead_200 : decode cL_isAhead 200 = .ok (.istore_n 2, 1) := by decide +kernel
theorem dL_isAhead_201 : decode cL_isAhead 201 = .ok (.iinc 5 1, 3) := by decide +kernel
theorem dL_isAhead_204 : decode cL_isAhead 204 = .ok (.goto (-164), 3) := by decide +kernel
theorem dL_isAhead_207 : decode cL_isAhead 207 = .ok (.iload_n 2, 1) := by decide +kernel
theorem dL_isAhead_208 : decode cL_isAhead 208 = .ok (.ifCond .eq 47, 3) := by decide +kernel
theorem dL_isAhead_211 : decode cL_isAhead 211 = .ok (.iload_n 3, 1) := by decide +kernel
theorem dL_isAhead_212 : decode cL_isAhead 212 = .ok (.iload_n 1, 1) := by decide +kernel
theorem dL_isAhead_213 : decode cL_isAhead 213 = .ok (.if_icmp .gt 42, 3) := by decide +kernel
theorem dL_isAhead_216 : decode cL_isAhead 216 = .ok (.iload_n 3, 1) := by decide +kernel
theorem dL_isAhead_217 : decode cL_isAhead 217 = .ok (.iload_n 1, 1) := by decide +kernel
theorem dL_isAhead_218 : decode cL_isAhead 218 = .ok (.aload_n 0, 1) := by decide +kernel
theorem dL_isAhead_219 : decode cL_isAhead 219 = .ok (.invokevirtual 41, 3) := by decide +kernel
theorem dL_isAhead_222 : decode cL_isAhead 222 = .ok (.if_icmp .ge 7, 3) := by decide +kernel
theorem dL_isAhead_225 : decode cL_isAhead 225 = .ok (.iload_n 1, 1) := by decide +kernel
theorem dL_isAhead_226 : decode cL_isAhead 226 = .ok (.goto 7, 3) := by decide +kernel
theorem dL_isAhead_229 : decode cL_isAhead 229 = .ok (.aload_n 0, 1) := by decide +kernel
theorem dL_isAhead_230 : decode cL_isAhead 230 = .ok (.invokevirtual 41, 3) := by decide +kernel
theorem dL_isAhead_233 : decode cL_isAhead 233 = .ok (.aload_n 0, 1) := by decide +kernel
theorem dL_isAhead_234 : decode cL_isAhead 234 = .ok (.invokevirtual 85, 3) := by decide +kernel
theorem dL_isAhead_237 : decode cL_isAhead 237 = .ok (.isub, 1) := by decide +kernel
theorem dL_isAhead_238 : decode cL_isAhead 238 = .ok (.if_icmp .lt 17, 3) := by decide +kernel
theorem dL_isAhead_241 : decode cL_isAhead 241 = .ok (.aload_n 0, 1) := by decide +kernel
theorem dL_isAhead_242 : decode cL_isAhead 242 = .ok (.iload_n 1, 1) := by decide +kernel
theorem dL_isAhead_243 : decode cL_isAhead 243 = .ok (.invokevirtual 66, 3) := by decide +kernel
theorem dL_isAhead_246 : decode cL_isAhead 246 = .ok (.iload 4, 2) := by decide +kernel
theorem dL_isAhead_248 : decode cL_isAhead 248 = .ok (.if_icmp .ne 7, 3) := by decide +kernel
theorem dL_isAhead_251 : decode cL_isAhead 251 = .ok (.iconst 1, 1) := by decide +kernel
theorem dL_isAhead_252 : decode cL_isAhead 252 = .ok (.goto 4, 3) := by decide +kernel
theorem dL_isAhead_255 : decode cL_isAhead 255 = .ok (.iconst 0, 1) := by decide +kernel
theorem dL_isAhead_256 : decode cL_isAhead 256 = .ok (.ireturn, 1) := by decide +kernel
theorem dL_law_0 : decode cL_law 0 = .ok (.new 12, 3) := by decide +kernel
theorem dL_law_3 : decode cL_law 3 = .ok (.dup, 1) := by decide +kernel
theorem dL_law_4 : decode cL_law 4 = .ok (.invokespecial 131, 3) := by decide +kernel
theorem dL_law_7 : decode cL_law 7 = .ok (.astore_n 1, 1) := by decide +kernel
theorem dL_law_8 : decode cL_law 8 = .ok (.aload_n 1, 1) := by decide +kernel
theorem dL_law_9 : decode cL_law 9 = .ok (.invokestatic 132, 3) := by decide +kernel
theorem dL_law_12 : decode cL_law 12 = .ok (.ifCond .eq 16, 3) := by decide +kernel
theorem dL_law_15 : decode cL_law 15 = .ok (.aload_n 1, 1) := by decide +kernel
theorem dL_law_16 : decode cL_law 16 = .ok (.invokevirtual 41, 3) := by decide +kernel
theorem dL_law_19 : decode cL_law 19 = .ok (.bipush 32, 2) := by decide +kernel
theorem dL_law_21 : decode cL_law 21 = .ok (.if_icmp .ne 7, 3) := by decide +kernel
theorem dL_law_24 : decode cL_law 24 = .ok (.iconst 1, 1) := by decide +kernel
theorem dL_law_25 : decode cL_law 25 = .ok (.goto 4, 3) := by decide +kernel
theorem dL_law_28 : decode cL_law 28 = .ok (.iconst 0, 1) := by decide +kernel
theorem dL_law_29 : decode cL_law 29 = .ok (.istore_n 2, 1) := by decide +kernel
theorem dL_law_30 : decode cL_law 30 = .ok (.iconst 0, 1) := by decide +kernel
theorem dL_law_31 : decode cL_law 31 = .ok (.istore_n 3, 1) := by decide +kernel
theorem dL_law_32 : decode cL_law 32 = .ok (.iload_n 3, 1) := by decide +kernel
theorem dL_law_33 : decode cL_law 33 = .ok (.bipush 72, 2) := by decide +kernel
theorem dL_law_35 : decode cL_law 35 = .ok (.if_icmp .ge 201, 3) := by decide +kernel
theorem dL_law_38 : decode cL_law 38 = .ok (.iload_n 2, 1) := by decide +kernel
theorem dL_law_39 : decode cL_law 39 = .ok (.ifCond .eq 197, 3) := by decide +kernel
theorem dL_law_42 : decode cL_law 42 = .ok (.aload_n 0, 1) := by decide +kernel
theorem dL_law_43 : decode cL_law 43 = .ok (.iconst 2, 1) := by decide +kernel
theorem dL_law_44 : decode cL_law 44 = .ok (.iload_n 3, 1) := by decide +kernel
theorem dL_law_45 : decode cL_law 45 = .ok (.imul, 1) := by decide +kernel
theorem dL_law_46 : decode cL_law 46 = .ok (.invokestatic 136, 3) := by decide +kernel
theorem dL_law_49 : decode cL_law 49 = .ok (.istore 4, 2) := by decide +kernel
theorem dL_law_51 : decode cL_law 51 = .ok (.aload_n 0, 1) := by decide +kernel
theorem dL_law_52 : decode cL_law 52 = .ok (.iconst 2, 1) := by decide +kernel
theorem dL_law_53 : decode cL_law 53 = .ok (.iload_n 3, 1) := by decide +kernel
theorem dL_law_54 : decode cL_law 54 = .ok (.imul, 1) := by decide +kernel
theorem dL_law_55 : decode cL_law 55 = .ok (.iconst 1, 1) := by decide +kernel
theorem dL_law_56 : decode cL_law 56 = .ok (.iadd, 1) := by decide +kernel
theorem dL_law_57 : decode cL_law 57 = .ok (.invokestatic 136, 3) := by decide +kernel
theorem dL_law_60 : decode cL_law 60 = .ok (.istore 5, 2) := by decide +kernel
theorem dL_law_62 : decode cL_law 62 = .ok (.aload_n 1, 1) := by decide +kernel
theorem dL_law_63 : decode cL_law 63 = .ok (.invokevirtual 140, 3) := by decide +kernel
theorem dL_law_66 : decode cL_law 66 = .ok (.lstore 6, 2) := by decide +kernel
theorem dL_law_68 : decode cL_law 68 = .ok (.aload_n 1, 1) := by decide +kernel
theorem dL_law_69 : decode cL_law 69 = .ok (.invokevirtual 144, 3) := by decide +kernel
theorem dL_law_72 : decode cL_law 72 = .ok (.istore 8, 2) := by decide +kernel
theorem dL_law_74 : decode cL_law 74 = .ok (.aload_n 1, 1) := by decide +kernel
theorem dL_law_75 : decode cL_law 75 = .ok (.iload 4, 2) := by decide +kernel
theorem dL_law_77 : decode cL_law 77 = .ok (.iload 5, 2) := by decide +kernel
theorem dL_law_79 : decode cL_law 79 = .ok (.invokestatic 147, 3) := by decide +kernel
theorem dL_law_82 : decode cL_law 82 = .ok (.ifCond .eq 30, 3) := by decide +kernel
theorem dL_law_85 : decode cL_law 85 = .ok (.aload_n 1, 1) := by decide +kernel
theorem dL_law_86 : decode cL_law 86 = .ok (.invokevirtual 144, 3) := by decide +kernel
theorem dL_law_89 : decode cL_law 89 = .ok (.iload 8, 2) := by decide +kernel
theorem dL_law_91 : decode cL_law 91 = .ok (.bipush 6, 2) := by decide +kernel
theorem dL_law_93 : decode cL_law 93 = .ok (.if_icmp .ge 10, 3) := by decide +kernel
theorem dL_law_96 : decode cL_law 96 = .ok (.iload 8, 2) := by decide +kernel
theorem dL_law_98 : decode cL_law 98 = .ok (.iconst 1, 1) := by decide +kernel
theorem dL_law_99 : decode cL_law 99 = .ok (.iadd, 1) := by decide +kernel
theorem dL_law_100 : decode cL_law 100 = .ok (.goto 5, 3) := by decide +kernel
theorem dL_law_103 : decode cL_law 103 = .ok (.bipush 6, 2) := by decide +kernel
theorem dL_law_105 : decode cL_law 105 = .ok (.if_icmp .ne 7, 3) := by decide +kernel
theorem dL_law_108 : decode cL_law 108 = .ok (.iconst 1, 1) := by decide +kernel
theorem dL_law_109 : decode cL_law 109 = .ok (.goto 4, 3) := by decide +kernel
theorem dL_law_112 : decode cL_law 112 = .ok (.iconst 0, 1) := by decide +kernel
theorem dL_law_113 : decode cL_law 113 = .ok (.istore_n 2, 1) := by decide +kernel
theorem dL_law_114 : decode cL_law 114 = .ok (.iload_n 2, 1) := by decide +kernel
theorem dL_law_115 : decode cL_law 115 = .ok (.ifCond .eq 73, 3) := by decide +kernel
theorem dL_law_118 : decode cL_law 118 = .ok (.iload 4, 2) := by decide +kernel
theorem dL_law_120 : decode cL_law 120 = .ok (.bipush 8, 2) := by decide +kernel
theorem dL_law_122 : decode cL_law 122 = .ok (.ishr, 1) := by decide +kernel
theorem dL_law_123 : decode cL_law 123 = .ok (.iconst 3, 1) := by decide +kernel
theorem dL_law_124 : decode cL_law 124 = .ok (.iand, 1) := by decide +kernel
theorem dL_law_125 : decode cL_law 125 = .ok (.ifCond .ne 63, 3) := by decide +kernel
theorem dL_law_128 : decode cL_law 128 = .ok (.aload_n 1, 1) := by decide +kernel
theorem dL_law_129 : decode cL_law 129 = .ok (.invokevirtual 140, 3) := by decide +kernel
theorem dL_law_132 : decode cL_law 132 = .ok (.lstore 9, 2) := by decide +kernel
theorem dL_law_134 : decode cL_law 134 = .ok (.aload_n 1, 1) := by decide +kernel
theorem dL_law_135 : decode cL_law 135 = .ok (.invokevirtual 144, 3) := by decide +kernel
theorem dL_law_138 : decode cL_law 138 = .ok (.iconst 1, 1) := by decide +kernel
theorem dL_law_139 : decode cL_law 139 = .ok (.isub, 1) := by decide +kernel
theorem dL_law_140 : decode cL_law 140 = .ok (.istore 11, 2) := by decide +kernel
theorem dL_law_142 : decode cL_law 142 = .ok (.aload_n 1, 1) := by decide +kernel
theorem dL_law_143 : decode cL_law 143 = .ok (.invokevirtual 151, 3) := by decide +kernel
theorem dL_law_146 : decode cL_law 146 = .ok (.iload 11, 2) := by decide +kernel
theorem dL_law_148 : decode cL_law 148 = .ok (.if_icmp .ne 38, 3) := by decide +kernel
theorem dL_law_151 : decode cL_law 151 = .ok (.aload_n 1, 1) := by decide +kernel
theorem dL_law_152 : decode cL_law 152 = .ok (.invokevirtual 140, 3) := by decide +kernel
theorem dL_law_155 : decode cL_law 155 = .ok (.lload 6, 2) := by decide +kernel
theorem dL_law_157 : decode cL_law 157 = .ok (.lcmp, 1) := by decide +kernel
theorem dL_law_158 : decode cL_law 158 = .ok (.ifCond .ne 28, 3) := by decide +kernel
theorem dL_law_161 : decode cL_law 161 = .ok (.aload_n 1, 1) := by decide +kernel
theorem dL_law_162 : decode cL_law 162 = .ok (.iload 4, 2) := by decide +kernel
theorem dL_law_164 : decode cL_law 164 = .ok (.iload 5, 2) := by decide +kernel
theorem dL_law_166 : decode cL_law 166 = .ok (.invokestatic 147, 3) := by decide +kernel
theorem dL_law_169 : decode cL_law 169 = .ok (.ifCond .eq 17, 3) := by decide +kernel
theorem dL_law_172 : decode cL_law 172 = .ok (.aload_n 1, 1) := by decide +kernel
theorem dL_law_173 : decode cL_law 173 = .ok (.invokevirtual 140, 3) := by decide +kernel
theorem dL_law_176 : decode cL_law 176 = .ok (.lload 9, 2) := by decide +kernel
theorem dL_law_178 : decode cL_law 178 = .ok (.lcmp, 1) := by decide +kernel
theorem dL_law_179 : decode cL_law 179 = .ok (.ifCond .ne 7, 3) := by decide +kernel
theorem dL_law_182 : decode cL_law 182 = .ok (.iconst 1, 1) := by decide +kernel
theorem dL_law_183 : decode cL_law 183 = .ok (.goto 4, 3) := by decide +kernel
theorem dL_law_186 : decode cL_law 186 = .ok (.iconst 0, 1) := by decide +kernel
theorem dL_law_187 : decode cL_law 187 = .ok (.istore_n 2, 1) := by decide +kernel
theorem dL_law_188 : decode cL_law 188 = .ok (.iload_n 2, 1) := by decide +kernel
theorem dL_law_189 : decode cL_law 189 = .ok (.ifCond .eq 39, 3) := by decide +kernel
theorem dL_law_192 : decode cL_law 192 = .ok (.aload_n 1, 1) := by decide +kernel
theorem dL_law_193 : decode cL_law 193 = .ok (.invokestatic 132, 3) := by decide +kernel
theorem dL_law_196 : decode cL_law 196 = .ok (.ifCond .eq 32, 3) := by decide +kernel
theorem dL_law_199 : decode cL_law 199 = .ok (.iload_n 3, 1) := by decide +kernel
theorem dL_law_200 : decode cL_law 200 = .ok (.iconst 4, 1) := by decide +kernel
theorem dL_law_201 : decode cL_law 201 = .ok (.irem, 1) := by decide +kernel
theorem dL_law_202 : decode cL_law 202 = .ok (.iconst 2, 1) := by decide +kernel
theorem dL_law_203 : decode cL_law 203 = .ok (.if_icmp .ne 21, 3) := by decide +kernel
theorem dL_law_206 : decode cL_law 206 = .ok (.aload_n 1, 1) := by decide +kernel
theorem dL_law_207 : decode cL_law 207 = .ok (.iconst 1, 1) := by decide +kernel
theorem dL_law_208 : decode cL_law 208 = .ok (.iload 5, 2) := by decide +kernel
theorem dL_law_210 : decode cL_law 210 = .ok (.iconst 5, 1) := by decide +kernel
theorem dL_law_211 : decode cL_law 211 = .ok (.ishr, 1) := by decide +kernel
theorem dL_law_212 : decode cL_law 212 = .ok (.bipush 32, 2) := by decide +kernel
theorem dL_law_214 : decode cL_law 214 = .ok (.invokestatic 82, 3) := by decide +kernel
theorem dL_law_217 : decode cL_law 217 = .ok (.iadd, 1) := by decide +kernel
theorem dL_law_218 : decode cL_law 218 = .ok (.invokestatic 154, 3) := by decide +kernel
theorem dL_law_221 : decode cL_law 221 = .ok (.ifCond .eq 7, 3) := by decide +kernel
theorem dL_law_224 : decode cL_law 224 = .ok (.iconst 1, 1) := by decide +kernel
theorem dL_law_225 : decode cL_law 225 = .ok (.goto 4, 3) := by decide +kernel
theorem dL_law_228 : decode cL_law 228 = .ok (.iconst 0, 1) := by decide +kernel
theorem dL_law_229 : decode cL_law 229 = .ok (.istore_n 2, 1) := by decide +kernel
theorem dL_law_230 : decode cL_law 230 = .ok (.iinc 3 1, 3) := by decide +kernel
theorem dL_law_233 : decode cL_law 233 = .ok (.goto (-201), 3) := by decide +kernel
theorem dL_law_236 : decode cL_law 236 = .ok (.iload_n 2, 1) := by decide +kernel
theorem dL_law_237 : decode cL_law 237 = .ok (.ireturn, 1) := by decide +kernel
