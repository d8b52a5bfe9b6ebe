theorem dX7_areWords_15 : decode cX7_areWords 15 = .ok (.bipush 26, 2) := by decide +kernel
theorem dX7_areWords_17 : decode cX7_areWords 17 = .ok (.if_icmp .le 5, 3) := by decide +kernel
theorem dX7_areWords_20 : decode cX7_areWords 20 = .ok (.iconst 0, 1) := by decide +kernel
theorem dX7_areWords_21 : decode cX7_areWords 21 = .ok (.ireturn, 1) := by decide +kernel
theorem dX7_areWords_22 : decode cX7_areWords 22 = .ok (.iinc 1 8, 3) := by decide +kernel
theorem dX7_areWords_25 : decode cX7_areWords 25 = .ok (.goto (-23), 3) := by decide +kernel
theorem dX7_areWords_28 : decode cX7_areWords 28 = .ok (.iconst 1, 1) := by decide +kernel
theorem dX7_areWords_29 : decode cX7_areWords 29 = .ok (.ireturn, 1) := by decide +kernel
theorem dX7_areNumbers_0 : decode cX7_areNumbers 0 = .ok (.iload_n 0, 1) := by decide +kernel
theorem dX7_areNumbers_1 : decode cX7_areNumbers 1 = .ok (.iconst 0, 1) := by decide +kernel
theorem dX7_areNumbers_2 : decode cX7_areNumbers 2 = .ok (.ldc 226, 2) := by decide +kernel
theorem dX7_areNumbers_4 : decode cX7_areNumbers 4 = .ok (.invokestatic 67, 3) := by decide +kernel
theorem dX7_areNumbers_7 : decode cX7_areNumbers 7 = .ok (.ifCond .ne 5, 3) := by decide +kernel
theorem dX7_areNumbers_10 : decode cX7_areNumbers 10 = .ok (.iconst 0, 1) := by decide +kernel
theorem dX7_areNumbers_11 : decode cX7_areNumbers 11 = .ok (.ireturn, 1) := by decide +kernel
theorem dX7_areNumbers_12 : decode cX7_areNumbers 12 = .ok (.iload_n 0, 1) := by decide +kernel
theorem dX7_areNumbers_13 : decode cX7_areNumbers 13 = .ok (.istore_n 1, 1) := by decide +kernel
theorem dX7_areNumbers_14 : decode cX7_areNumbers 14 = .ok (.iload_n 0, 1) := by decide +kernel
theorem dX7_areNumbers_15 : decode cX7_areNumbers 15 = .ok (.invokestatic 227, 3) := by decide +kernel
theorem dX7_areNumbers_18 : decode cX7_areNumbers 18 = .ok (.istore_n 2, 1) := by decide +kernel
theorem dX7_areNumbers_19 : decode cX7_areNumbers 19 = .ok (.iload_n 2, 1) := by decide +kernel
theorem dX7_areNumbers_20 : decode cX7_areNumbers 20 = .ok (.ifCond .le 29, 3) := by decide +kernel
theorem dX7_areNumbers_23 : decode cX7_areNumbers 23 = .ok (.iload_n 1, 1) := by decide +kernel
theorem dX7_areNumbers_24 : decode cX7_areNumbers 24 = .ok (.bipush 100, 2) := by decide +kernel
theorem dX7_areNumbers_26 : decode cX7_areNumbers 26 = .ok (.irem, 1) := by decide +kernel
theorem dX7_areNumbers_27 : decode cX7_areNumbers 27 = .ok (.iconst 1, 1) := by decide +kernel
theorem dX7_areNumbers_28 : decode cX7_areNumbers 28 = .ok (.bipush 12, 2) := by decide +kernel
theorem dX7_areNumbers_30 : decode cX7_areNumbers 30 = .ok (.invokestatic 67, 3) := by decide +kernel
theorem dX7_areNumbers_33 : decode cX7_areNumbers 33 = .ok (.ifCond .ne 5, 3) := by decide +kernel
theorem dX7_areNumbers_36 : decode cX7_areNumbers 36 = .ok (.iconst 0, 1) := by decide +kernel
theorem dX7_areNumbers_37 : decode cX7_areNumbers 37 = .ok (.ireturn, 1) := by decide +kernel
theorem dX7_areNumbers_38 : decode cX7_areNumbers 38 = .ok (.iload_n 1, 1) := by decide +kernel
theorem dX7_areNumbers_39 : decode cX7_areNumbers 39 = .ok (.bipush 100, 2) := by decide +kernel
theorem dX7_areNumbers_41 : decode cX7_areNumbers 41 = .ok (.idiv, 1) := by decide +kernel
theorem dX7_areNumbers_42 : decode cX7_areNumbers 42 = .ok (.istore_n 1, 1) := by decide +kernel
theorem dX7_areNumbers_43 : decode cX7_areNumbers 43 = .ok (.iinc 2 (-1), 3) := by decide +kernel
theorem dX7_areNumbers_46 : decode cX7_areNumbers 46 = .ok (.goto (-27), 3) := by decide +kernel
theorem dX7_areNumbers_49 : decode cX7_areNumbers 49 = .ok (.iconst 1, 1) := by decide +kernel
theorem dX7_areNumbers_50 : decode cX7_areNumbers 50 = .ok (.ireturn, 1) := by decide +kernel
theorem dX7_countParts_0 : decode cX7_countParts 0 = .ok (.iload_n 0, 1) := by decide +kernel
theorem dX7_countParts_1 : decode cX7_countParts 1 = .ok (.ifCond .ne 5, 3) := by decide +kernel
theorem dX7_countParts_4 : decode cX7_countParts 4 = .ok (.iconst 0, 1) := by decide +kernel
theorem dX7_countParts_5 : decode cX7_countParts 5 = .ok (.ireturn, 1) := by decide +kernel
theorem dX7_countParts_6 : decode cX7_countParts 6 = .ok (.iload_n 0, 1) := by decide +kernel
theorem dX7_countParts_7 : decode cX7_countParts 7 = .ok (.bipush 100, 2) := by decide +kernel
theorem dX7_countParts_9 : decode cX7_countParts 9 = .ok (.if_icmp .ge 5, 3) := by decide +kernel
theorem dX7_countParts_12 : decode cX7_countParts 12 = .ok (.iconst 1, 1) := by decide +kernel
theorem dX7_countParts_13 : decode cX7_countParts 13 = .ok (.ireturn, 1) := by decide +kernel
theorem dX7_countParts_14 : decode cX7_countParts 14 = .ok (.iload_n 0, 1) := by decide +kernel
theorem dX7_countParts_15 : decode cX7_countParts 15 = .ok (.sipush 10000, 3) := by decide +kernel
theorem dX7_countParts_18 : decode cX7_countParts 18 = .ok (.if_icmp .ge 7, 3) := by decide +kernel
theorem dX7_countParts_21 : decode cX7_countParts 21 = .ok (.iconst 2, 1) := by decide +kernel
theorem dX7_countParts_22 : decode cX7_countParts 22 = .ok (.goto 4, 3) := by decide +kernel
theorem dX7_countParts_25 : decode cX7_countParts 25 = .ok (.iconst 3, 1) := by decide +kernel
theorem dX7_countParts_26 : decode cX7_countParts 26 = .ok (.ireturn, 1) := by decide +kernel
theorem dX8_init_0 : decode cX8_init 0 = .ok (.aload_n 0, 1) := by decide +kernel
theorem dX8_init_1 : decode cX8_init 1 = .ok (.invokespecial 3, 3) := by decide +kernel
theorem dX8_init_4 : decode cX8_init 4 = .ok (.aload_n 0, 1) := by decide +kernel
theorem dX8_init_5 : decode cX8_init 5 = .ok (.iconst 1, 1) := by decide +kernel
theorem dX8_init_6 : decode cX8_init 6 = .ok (.putfield 9, 3) := by decide +kernel
theorem dX8_init_9 : decode cX8_init 9 = .ok (.aload_n 0, 1) := by decide +kernel
theorem dX8_init_10 : decode cX8_init 10 = .ok (.bipush 60, 2) := by decide +kernel
theorem dX8_init_12 : decode cX8_init 12 = .ok (.newarray .int, 2) := by decide +kernel
theorem dX8_init_14 : decode cX8_init 14 = .ok (.putfield 13, 3) := by decide +kernel
theorem dX8_init_17 : decode cX8_init 17 = .ok (.aload_n 0, 1) := by decide +kernel
theorem dX8_init_18 : decode cX8_init 18 = .ok (.bipush 20, 2) := by decide +kernel
theorem dX8_init_20 : decode cX8_init 20 = .ok (.newarray .int, 2) := by decide +kernel
theorem dX8_init_22 : decode cX8_init 22 = .ok (.putfield 17, 3) := by decide +kernel
theorem dX8_init_25 : decode cX8_init 25 = .ok (.aload_n 0, 1) := by decide +kernel
theorem dX8_init_26 : decode cX8_init 26 = .ok (.bipush 20, 2) := by decide +kernel
theorem dX8_init_28 : decode cX8_init 28 = .ok (.newarray .int, 2) := by decide +kernel
theorem dX8_init_30 : decode cX8_init 30 = .ok (.putfield 20, 3) := by decide +kernel
theorem dX8_init_33 : decode cX8_init 33 = .ok (.aload_n 0, 1) := by decide +kernel
theorem dX8_init_34 : decode cX8_init 34 = .ok (.bipush 20, 2) := by decide +kernel
theorem dX8_init_36 : decode cX8_init 36 = .ok (.newarray .int, 2) := by decide +kernel
theorem dX8_init_38 : decode cX8_init 38 = .ok (.putfield 23, 3) := by decide +kernel
theorem dX8_init_41 : decode cX8_init 41 = .ok (.aload_n 0, 1) := by decide +kernel
theorem dX8_init_42 : decode cX8_init 42 = .ok (.bipush 20, 2) := by decide +kernel
theorem dX8_init_44 : decode cX8_init 44 = .ok (.newarray .boolean, 2) := by decide +kernel
theorem dX8_init_46 : decode cX8_init 46 = .ok (.putfield 26, 3) := by decide +kernel
theorem dX8_init_49 : decode cX8_init 49 = .ok (.aload_n 0, 1) := by decide +kernel
theorem dX8_init_50 : decode cX8_init 50 = .ok (.sipush 160, 3) := by decide +kernel
theorem dX8_init_53 : decode cX8_init 53 = .ok (.newarray .int, 2) := by decide +kernel
theorem dX8_init_55 : decode cX8_init 55 = .ok (.putfield 30, 3) := by decide +kernel
theorem dX8_init_58 : decode cX8_init 58 = .ok (.aload_n 0, 1) := by decide +kernel
theorem dX8_init_59 : decode cX8_init 59 = .ok (.bipush 20, 2) := by decide +kernel
theorem dX8_init_61 : decode cX8_init 61 = .ok (.newarray .int, 2) := by decide +kernel
theorem dX8_init_63 : decode cX8_init 63 = .ok (.putfield 33, 3) := by decide +kernel
theorem dX8_init_66 : decode cX8_init 66 = .ok (.aload_n 0, 1) := by decide +kernel
theorem dX8_init_67 : decode cX8_init 67 = .ok (.bipush 60, 2) := by decide +kernel
theorem dX8_init_69 : decode cX8_init 69 = .ok (.newarray .int, 2) := by decide +kernel
theorem dX8_init_71 : decode cX8_init 71 = .ok (.putfield 36, 3) := by decide +kernel
theorem dX8_init_74 : decode cX8_init 74 = .ok (.aload_n 0, 1) := by decide +kernel
theorem dX8_init_75 : decode cX8_init 75 = .ok (.bipush 10, 2) := by decide +kernel
theorem dX8_init_77 : decode cX8_init 77 = .ok (.newarray .int, 2) := by decide +kernel
theorem dX8_init_79 : decode cX8_init 79 = .ok (.dup, 1) := by decide +kernel
theorem dX8_init_80 : decode cX8_init 80 = .ok (.iconst 0, 1) := by decide +kernel
theorem dX8_init_81 : decode cX8_init 81 = .ok (.iconst 1, 1) := by decide +kernel
theorem dX8_init_82 : decode cX8_init 82 = .ok (.iastore, 1) := by decide +kernel
theorem dX8_init_83 : decode cX8_init 83 = .ok (.dup, 1) := by decide +kernel
theorem dX8_init_84 : decode cX8_init 84 = .ok (.iconst 1, 1) := by decide +kernel
theorem dX8_init_85 : decode cX8_init 85 = .ok (.iconst 2, 1) := by decide +kernel
theorem dX8_init_86 : decode cX8_init 86 = .ok (.iastore, 1) := by decide +kernel
theorem dX8_init_87 : decode cX8_init 87 = .ok (.dup, 1) := by decide +kernel
theorem dX8_init_88 : decode cX8_init 88 = .ok (.iconst 2, 1) := by decide +kernel
theorem dX8_init_89 : decode cX8_init 89 = .ok (.iconst 5, 1) := by decide +kernel
theorem dX8_init_90 : decode cX8_init 90 = .ok (.iastore, 1) := by decide +kernel
theorem dX8_init_91 : decode cX8_init 91 = .ok (.dup, 1) := by decide +kernel
theorem dX8_init_92 : decode cX8_init 92 = .ok (.iconst 3, 1) := by decide +kernel
theorem dX8_init_93 : decode cX8_init 93 = .ok (.iconst 1, 1) := by decide +kernel
theorem dX8_init_94 : decode cX8_init 94 = .ok (.iastore, 1) := by decide +kernel
theorem dX8_init_95 : decode cX8_init 95 = .ok (.dup, 1) := by decide +kernel
theorem dX8_init_96 : decode cX8_init 96 = .ok (.iconst 4, 1) := by decide +kernel
theorem dX8_init_97 : decode cX8_init 97 = .ok (.iconst 2, 1) := by decide +kernel
theorem dX8_init_98 : decode cX8_init 98 = .ok (.iastore, 1) := by decide +kernel
theorem dX8_init_99 : decode cX8_init 99 = .ok (.dup, 1) := by decide +kernel
theorem dX8_init_100 : decode cX8_init 100 = .ok (.iconst 5, 1) := by decide +kernel
theorem dX8_init_101 : decode cX8_init 101 = .ok (.iconst 4, 1) := by decide +kernel
theorem dX8_init_102 : decode cX8_init 102 = .ok (.iastore, 1) := by decide +kernel
theorem dX8_init_103 : decode cX8_init 103 = .ok (.dup, 1) := by decide +kernel
theorem dX8_init_104 : decode cX8_init 104 = .ok (.bipush 6, 2) := by decide +kernel
theorem dX8_init_106 : decode cX8_init 106 = .ok (.iconst 3, 1) := by decide +kernel
theorem dX8_init_107 : decode cX8_init 107 = .ok (.iastore, 1) := by decide +kernel
theorem dX8_init_108 : decode cX8_init 108 = .ok (.dup, 1) := by decide +kernel
theorem dX8_init_109 : decode cX8_init 109 = .ok (.bipush 7, 2) := by decide +kernel
theorem dX8_init_111 : decode cX8_init 111 = .ok (.bipush 12, 2) := by decide +kernel
theorem dX8_init_113 : decode cX8_init 113 = .ok (.iastore, 1) := by decide +kernel
theorem dX8_init_114 : decode cX8_init 114 = .ok (.dup, 1) := by decide +kernel
theorem dX8_init_115 : decode cX8_init 115 = .ok (.bipush 8, 2) := by decide +kernel
theorem dX8_init_117 : decode cX8_init 117 = .ok (.bipush 6, 2) := by decide +kernel
theorem dX8_init_119 : decode cX8_init 119 = .ok (.iastore, 1) := by decide +kernel
theorem dX8_init_120 : decode cX8_init 120 = .ok (.dup, 1) := by decide +kernel
theorem dX8_init_121 : decode cX8_init 121 = .ok (.bipush 9, 2) := by decide +kernel
theorem dX8_init_123 : decode cX8_init 123 = .ok (.iconst 4, 1) := by decide +kernel
theorem dX8_init_124 : decode cX8_init 124 = .ok (.iastore, 1) := by decide +kernel
theorem dX8_init_125 : decode cX8_init 125 = .ok (.putfield 39, 3) := by decide +kernel
theorem dX8_init_128 : decode cX8_init 128 = .ok (.aload_n 0, 1) := by decide +kernel
theorem dX8_init_129 : decode cX8_init 129 = .ok (.iconst 4, 1) := by decide +kernel
theorem dX8_init_130 : decode cX8_init 130 = .ok (.newarray .int, 2) := by decide +kernel
theorem dX8_init_132 : decode cX8_init 132 = .ok (.dup, 1) := by decide +kernel
theorem dX8_init_133 : decode cX8_init 133 = .ok (.iconst 0, 1) := by decide +kernel
theorem dX8_init_134 : decode cX8_init 134 = .ok (.iconst 3, 1) := by decide +kernel
theorem dX8_init_135 : decode cX8_init 135 = .ok (.iastore, 1) := by decide +kernel
theorem dX8_init_136 : decode cX8_init 136 = .ok (.dup, 1) := by decide +kernel
theorem dX8_init_137 : decode cX8_init 137 = .ok (.iconst 1, 1) := by decide +kernel
theorem dX8_init_138 : decode cX8_init 138 = .ok (.bipush 18, 2) := by decide +kernel
theorem dX8_init_140 : decode cX8_init 140 = .ok (.iastore, 1) := by decide +kernel
theorem dX8_init_141 : decode cX8_init 141 = .ok (.dup, 1) := by decide +kernel
theorem dX8_init_142 : decode cX8_init 142 = .ok (.iconst 2, 1) := by decide +kernel
theorem dX8_init_143 : decode cX8_init 143 = .ok (.bipush 13, 2) := by decide +kernel
theorem dX8_init_145 : decode cX8_init 145 = .ok (.iastore, 1) := by decide +kernel
theorem dX8_init_146 : decode cX8_init 146 = .ok (.dup, 1) := by decide +kernel
theorem dX8_init_147 : decode cX8_init 147 = .ok (.iconst 3, 1) := by decide +kernel
theorem dX8_init_148 : decode cX8_init 148 = .ok (.bipush 8, 2) := by decide +kernel
theorem dX8_init_150 : decode cX8_init 150 = .ok (.iastore, 1) := by decide +kernel
theorem dX8_init_151 : decode cX8_init 151 = .ok (.putfield 42, 3) := by decide +kernel
theorem dX8_init_154 : decode cX8_init 154 = .ok (.aload_n 0, 1) := by decide +kernel
theorem dX8_init_155 : decode cX8_init 155 = .ok (.bipush 12, 2) := by decide +kernel
theorem dX8_init_157 : decode cX8_init 157 = .ok (.newarray .int, 2) := by decide +kernel
theorem dX8_init_159 : decode cX8_init 159 = .ok (.putfield 45, 3) := by decide +kernel
theorem dX8_init_162 : decode cX8_init 162 = .ok (.aload_n 0, 1) := by decide +kernel
theorem dX8_init_163 : decode cX8_init 163 = .ok (.bipush 12, 2) := by decide +kernel
theorem dX8_init_165 : decode cX8_init 165 = .ok (.newarray .int, 2) := by decide +kernel
theorem dX8_init_167 : decode cX8_init 167 = .ok (.putfield 48, 3) := by decide +kernel
theorem dX8_init_170 : decode cX8_init 170 = .ok (.aload_n 0, 1) := by decide +kernel
theorem dX8_init_171 : decode cX8_init 171 = .ok (.bipush 96, 2) := by decide +kernel
theorem dX8_init_173 : decode cX8_init 173 = .ok (.newarray .int, 2) := by decide +kernel
theorem dX8_init_175 : decode cX8_init 175 = .ok (.putfield 51, 3) := by decide +kernel
theorem dX8_init_178 : decode cX8_init 178 = .ok (.aload_n 0, 1) := by decide +kernel
theorem dX8_init_179 : decode cX8_init 179 = .ok (.ldc 54, 2) := by decide +kernel
theorem dX8_init_181 : decode cX8_init 181 = .ok (.newarray .int, 2) := by decide +kernel
theorem dX8_init_183 : decode cX8_init 183 = .ok (.putfield 55, 3) := by decide +kernel
theorem dX8_init_186 : decode cX8_init 186 = .ok (.aload_n 0, 1) := by decide +kernel
theorem dX8_init_187 : decode cX8_init 187 = .ok (.bipush 20, 2) := by decide +kernel
theorem dX8_init_189 : decode cX8_init 189 = .ok (.newarray .int, 2) := by decide +kernel
theorem dX8_init_191 : decode cX8_init 191 = .ok (.putfield 58, 3) := by decide +kernel
theorem dX8_init_194 : decode cX8_init 194 = .ok (.aload_n 0, 1) := by decide +kernel
theorem dX8_init_195 : decode cX8_init 195 = .ok (.bipush 60, 2) := by decide +kernel
theorem dX8_init_197 : decode cX8_init 197 = .ok (.newarray .int, 2) := by decide +kernel
theorem dX8_init_199 : decode cX8_init 199 = .ok (.putfield 61, 3) := by decide +kernel
theorem dX8_init_202 : decode cX8_init 202 = .ok (.aload_n 0, 1) := by decide +kernel
theorem dX8_init_203 : decode cX8_init 203 = .ok (.bipush 20, 2) := by decide +kernel
theorem dX8_init_205 : decode cX8_init 205 = .ok (.newarray .int, 2) := by decide +kernel
theorem dX8_init_207 : decode cX8_init 207 = .ok (.putfield 64, 3) := by decide +kernel
theorem dX8_init_210 : decode cX8_init 210 = .ok (.aload_n 0, 1) := by decide +kernel
theorem dX8_init_211 : decode cX8_init 211 = .ok (.sipush 273, 3) := by decide +kernel
theorem dX8_init_214 : decode cX8_init 214 = .ok (.newarray .int, 2) := by decide +kernel
theorem dX8_init_216 : decode cX8_init 216 = .ok (.putfield 67, 3) := by decide +kernel
theorem dX8_init_219 : decode cX8_init 219 = .ok (.aload_n 0, 1) := by decide +kernel
theorem dX8_init_220 : decode cX8_init 220 = .ok (.bipush 12, 2) := by decide +kernel
theorem dX8_init_222 : decode cX8_init 222 = .ok (.newarray .int, 2) := by decide +kernel
theorem dX8_init_224 : decode cX8_init 224 = .ok (.putfield 70, 3) := by decide +kernel
theorem dX8_init_227 : decode cX8_init 227 = .ok (.aload_n 0, 1) := by decide +kernel
theorem dX8_init_228 : decode cX8_init 228 = .ok (.bipush 61, 2) := by decide +kernel
theorem dX8_init_230 : decode cX8_init 230 = .ok (.newarray .int, 2) := by decide +kernel
theorem dX8_init_232 : decode cX8_init 232 = .ok (.putfield 73, 3) := by decide +kernel
theorem dX8_init_235 : decode cX8_init 235 = .ok (.aload_n 0, 1) := by decide +kernel
theorem dX8_init_236 : decode cX8_init 236 = .ok (.bipush 61, 2) := by decide +kernel
theorem dX8_init_238 : decode cX8_init 238 = .ok (.newarray .int, 2) := by decide +kernel
theorem dX8_init_240 : decode cX8_init 240 = .ok (.putfield 76, 3) := by decide +kernel
theorem dX8_init_243 : decode cX8_init 243 = .ok (.aload_n 0, 1) := by decide +kernel
theorem dX8_init_244 : decode cX8_init 244 = .ok (.bipush 61, 2) := by decide +kernel
theorem dX8_init_246 : decode cX8_init 246 = .ok (.newarray .int, 2) := by decide +kernel
theorem dX8_init_248 : decode cX8_init 248 = .ok (.putfield 79, 3) := by decide +kernel
theorem dX8_init_251 : decode cX8_init 251 = .ok (.aload_n 0, 1) := by decide +kernel
theorem dX8_init_252 : decode cX8_init 252 = .ok (.bipush 60, 2) := by decide +kernel
theorem dX8_init_254 : decode cX8_init 254 = .ok (.newarray .int, 2) := by decide +kernel
theorem dX8_init_256 : decode cX8_init 256 = .ok (.putfield 82, 3) := by decide +kernel
theorem dX8_init_259 : decode cX8_init 259 = .ok (.aload_n 0, 1) := by decide +kernel
theorem dX8_init_260 : decode cX8_init 260 = .ok (.bipush 60, 2) := by decide +kernel
theorem dX8_init_262 : decode cX8_init 262 = .ok (.newarray .int, 2) := by decide +kernel
theorem dX8_init_264 : decode cX8_init 264 = .ok (.putfield 85, 3) := by decide +kernel
theorem dX8_init_267 : decode cX8_init 267 = .ok (.aload_n 0, 1) := by decide +kernel
theorem dX8_init_268 : decode cX8_init 268 = .ok (.bipush 20, 2) := by decide +kernel
theorem dX8_init_270 : decode cX8_init 270 = .ok (.newarray .boolean, 2) := by decide +kernel
theorem dX8_init_272 : decode cX8_init 272 = .ok (.putfield 88, 3) := by decide +kernel
theorem dX8_init_275 : decode cX8_init 275 = .ok (.aload_n 0, 1) := by decide +kernel
theorem dX8_init_276 : decode cX8_init 276 = .ok (.ldc 54, 2) := by decide +kernel
theorem dX8_init_278 : decode cX8_init 278 = .ok (.newarray .int, 2) := by decide +kernel
theorem dX8_init_280 : decode cX8_init 280 = .ok (.putfield 91, 3) := by decide +kernel
theorem dX8_init_283 : decode cX8_init 283 = .ok (.return_, 1) := by decide +kernel
theorem dX8_thrown_0 : decode cX8_thrown 0 = .ok (.aload_n 0, 1) := by decide +kernel
theorem dX8_thrown_1 : decode cX8_thrown 1 = .ok (.getfield 94, 3) := by decide +kernel
theorem dX8_thrown_4 : decode cX8_thrown 4 = .ok (.ireturn, 1) := by decide +kernel
theorem dX8_in_0 : decode cX8_in 0 = .ok (.iload_n 0, 1) := by decide +kernel
theorem dX8_in_1 : decode cX8_in 1 = .ok (.iload_n 1, 1) := by decide +kernel
theorem dX8_in_2 : decode cX8_in 2 = .ok (.if_icmp .lt 12, 3) := by decide +kernel
theorem dX8_in_5 : decode cX8_in 5 = .ok (.iload_n 0, 1) := by decide +kernel
theorem dX8_in_6 : decode cX8_in 6 = .ok (.iload_n 2, 1) := by decide +kernel
theorem dX8_in_7 : decode cX8_in 7 = .ok (.if_icmp .gt 7, 3) := by decide +kernel
theorem dX8_in_10 : decode cX8_in 10 = .ok (.iconst 1, 1) := by decide +kernel
theorem dX8_in_11 : decode cX8_in 11 = .ok (.goto 4, 3) := by decide +kernel
theorem dX8_in_14 : decode cX8_in 14 = .ok (.iconst 0, 1) := by decide +kernel
theorem dX8_in_15 : decode cX8_in 15 = .ok (.ireturn, 1) := by decide +kernel
theorem dX8_isLine_0 : decode cX8_isLine 0 = .ok (.iload_n 1, 1) := by decide +kernel
theorem dX8_isLine_1 : decode cX8_isLine 1 = .ok (.iconst 0, 1) := by decide +kernel
theorem dX8_isLine_2 : decode cX8_isLine 2 = .ok (.aload_n 0, 1) := by decide +kernel
theorem dX8_isLine_3 : decode cX8_isLine 3 = .ok (.getfield 97, 3) := by decide +kernel
theorem dX8_isLine_6 : decode cX8_isLine 6 = .ok (.iconst 1, 1) := by decide +kernel
theorem dX8_isLine_7 : decode cX8_isLine 7 = .ok (.isub, 1) := by decide +kernel
theorem dX8_isLine_8 : decode cX8_isLine 8 = .ok (.invokestatic 100, 3) := by decide +kernel
theorem dX8_isLine_11 : decode cX8_isLine 11 = .ok (.ireturn, 1) := by decide +kernel
theorem dX8_book_0 : decode cX8_book 0 = .ok (.aload_n 0, 1) := by decide +kernel
theorem dX8_book_1 : decode cX8_book 1 = .ok (.iconst 0, 1) := by decide +kernel
theorem dX8_book_2 : decode cX8_book 2 = .ok (.putfield 94, 3) := by decide +kernel
theorem dX8_book_5 : decode cX8_book 5 = .ok (.iload_n 1, 1) := by decide +kernel
theorem dX8_book_6 : decode cX8_book 6 = .ok (.iconst 1, 1) := by decide +kernel
theorem dX8_book_7 : decode cX8_book 7 = .ok (.bipush 60, 2) := by decide +kernel
theorem dX8_book_9 : decode cX8_book 9 = .ok (.invokestatic 100, 3) := by decide +kernel
theorem dX8_book_12 : decode cX8_book 12 = .ok (.ifCond .ne 5, 3) := by decide +kernel
theorem dX8_book_15 : decode cX8_book 15 = .ok (.iconst 0, 1) := by decide +kernel
theorem dX8_book_16 : decode cX8_book 16 = .ok (.ireturn, 1) := by decide +kernel
theorem dX8_book_17 : decode cX8_book 17 = .ok (.aload_n 0, 1) := by decide +kernel
theorem dX8_book_18 : decode cX8_book 18 = .ok (.iload_n 1, 1) := by decide +kernel
theorem dX8_book_19 : decode cX8_book 19 = .ok (.putfield 9, 3) := by decide +kernel
theorem dX8_book_22 : decode cX8_book 22 = .ok (.iconst 0, 1) := by decide +kernel
theorem dX8_book_23 : decode cX8_book 23 = .ok (.istore_n 2, 1) := by decide +kernel
theorem dX8_book_24 : decode cX8_book 24 = .ok (.iload_n 2, 1) := by decide +kernel
theorem dX8_book_25 : decode cX8_book 25 = .ok (.bipush 60, 2) := by decide +kernel
theorem dX8_book_27 : decode cX8_book 27 = .ok (.if_icmp .ge 16, 3) := by decide +kernel
theorem dX8_book_30 : decode cX8_book 30 = .ok (.aload_n 0, 1) := by decide +kernel
theorem dX8_book_31 : decode cX8_book 31 = .ok (.getfield 13, 3) := by decide +kernel
theorem dX8_book_34 : decode cX8_book 34 = .ok (.iload_n 2, 1) := by decide +kernel
theorem dX8_book_35 : decode cX8_book 35 = .ok (.iconst 0, 1) := by decide +kernel
theorem dX8_book_36 : decode cX8_book 36 = .ok (.iastore, 1) := by decide +kernel
theorem dX8_book_37 : decode cX8_book 37 = .ok (.iinc 2 1, 3) := by decide +kernel
theorem dX8_book_40 : decode cX8_book 40 = .ok (.goto (-16), 3) := by decide +kernel
theorem dX8_book_43 : decode cX8_book 43 = .ok (.aload_n 0, 1) := by decide +kernel
theorem dX8_book_44 : decode cX8_book 44 = .ok (.iconst 0, 1) := by decide +kernel
theorem dX8_book_45 : decode cX8_book 45 = .ok (.putfield 97, 3) := by decide +kernel
theorem dX8_book_48 : decode cX8_book 48 = .ok (.aload_n 0, 1) := by decide +kernel
theorem dX8_book_49 : decode cX8_book 49 = .ok (.iconst 0, 1) := by decide +kernel
theorem dX8_book_50 : decode cX8_book 50 = .ok (.putfield 104, 3) := by decide +kernel
theorem dX8_book_53 : decode cX8_book 53 = .ok (.aload_n 0, 1) := by decide +kernel
theorem dX8_book_54 : decode cX8_book 54 = .ok (.iconst 0, 1) := by decide +kernel
theorem dX8_book_55 : decode cX8_book 55 = .ok (.putfield 107, 3) := by decide +kernel
theorem dX8_book_58 : decode cX8_book 58 = .ok (.iconst 1, 1) := by decide +kernel
theorem dX8_book_59 : decode cX8_book 59 = .ok (.ireturn, 1) := by decide +kernel
theorem dX8_read_0 : decode cX8_read 0 = .ok (.aload_n 0, 1) := by decide +kernel
theorem dX8_read_1 : decode cX8_read 1 = .ok (.iconst 0, 1) := by decide +kernel
theorem dX8_read_2 : decode cX8_read 2 = .ok (.putfield 94, 3) := by decide +kernel
theorem dX8_read_5 : decode cX8_read 5 = .ok (.iload_n 1, 1) := by decide +kernel
theorem dX8_read_6 : decode cX8_read 6 = .ok (.iconst 0, 1) := by decide +kernel
theorem dX8_read_7 : decode cX8_read 7 = .ok (.aload_n 0, 1) := by decide +kernel
theorem dX8_read_8 : decode cX8_read 8 = .ok (.getfield 9, 3) := by decide +kernel
theorem dX8_read_11 : decode cX8_read 11 = .ok (.iconst 1, 1) := by decide +kernel
theorem dX8_read_12 : decode cX8_read 12 = .ok (.isub, 1) := by decide +kernel
theorem dX8_read_13 : decode cX8_read 13 = .ok (.invokestatic 100, 3) := by decide +kernel
theorem dX8_read_16 : decode cX8_read 16 = .ok (.ifCond .eq 14, 3) := by decide +kernel
theorem dX8_read_19 : decode cX8_read 19 = .ok (.iload_n 2, 1) := by decide +kernel
theorem dX8_read_20 : decode cX8_read 20 = .ok (.iconst 0, 1) := by decide +kernel
theorem dX8_read_21 : decode cX8_read 21 = .ok (.sipush 999, 3) := by decide +kernel
theorem dX8_read_24 : decode cX8_read 24 = .ok (.invokestatic 100, 3) := by decide +kernel
theorem dX8_read_27 : decode cX8_read 27 = .ok (.ifCond .ne 5, 3) := by decide +kernel
theorem dX8_read_30 : decode cX8_read 30 = .ok (.iconst 0, 1) := by decide +kernel
theorem dX8_read_31 : decode cX8_read 31 = .ok (.ireturn, 1) := by decide +kernel
theorem dX8_read_32 : decode cX8_read 32 = .ok (.aload_n 0, 1) := by decide +kernel
theorem dX8_read_33 : decode cX8_read 33 = .ok (.getfield 13, 3) := by decide +kernel
theorem dX8_read_36 : decode cX8_read 36 = .ok (.iload_n 1, 1) := by decide +kernel
theorem dX8_read_37 : decode cX8_read 37 = .ok (.iload_n 2, 1) := by decide +kernel
theorem dX8_read_38 : decode cX8_read 38 = .ok (.iastore, 1) := by decide +kernel
theorem dX8_read_39 : decode cX8_read 39 = .ok (.aload_n 0, 1) := by decide +kernel
theorem dX8_read_40 : decode cX8_read 40 = .ok (.iconst 0, 1) := by decide +kernel
theorem dX8_read_41 : decode cX8_read 41 = .ok (.putfield 107, 3) := by decide +kernel
theorem dX8_read_44 : decode cX8_read 44 = .ok (.iconst 1, 1) := by decide +kernel
theorem dX8_read_45 : decode cX8_read 45 = .ok (.ireturn, 1) := by decide +kernel
theorem dX8_partsOf_0 : decode cX8_partsOf 0 = .ok (.iload_n 1, 1) := by decide +kernel
theorem dX8_partsOf_1 : decode cX8_partsOf 1 = .ok (.ifCond .lt 9, 3) := by decide +kernel
theorem dX8_partsOf_4 : decode cX8_partsOf 4 = .ok (.iload_n 1, 1) := by decide +kernel
theorem dX8_partsOf_5 : decode cX8_partsOf 5 = .ok (.ldc 111, 2) := by decide +kernel
theorem dX8_partsOf_7 : decode cX8_partsOf 7 = .ok (.if_icmp .le 5, 3) := by decide +kernel
theorem dX8_partsOf_10 : decode cX8_partsOf 10 = .ok (.iconst (-1), 1) := by decide +kernel
theorem dX8_partsOf_11 : decode cX8_partsOf 11 = .ok (.ireturn, 1) := by decide +kernel
theorem dX8_partsOf_12 : decode cX8_partsOf 12 = .ok (.iload_n 1, 1) := by decide +kernel
theorem dX8_partsOf_13 : decode cX8_partsOf 13 = .ok (.ifCond .ne 7, 3) := by decide +kernel
theorem dX8_partsOf_16 : decode cX8_partsOf 16 = .ok (.iconst 0, 1) := by decide +kernel
theorem dX8_partsOf_17 : decode cX8_partsOf 17 = .ok (.goto 25, 3) := by decide +kernel
theorem dX8_partsOf_20 : decode cX8_partsOf 20 = .ok (.iload_n 1, 1) := by decide +kernel
theorem dX8_partsOf_21 : decode cX8_partsOf 21 = .ok (.bipush 100, 2) := by decide +kernel
theorem dX8_partsOf_23 : decode cX8_partsOf 23 = .ok (.if_icmp .ge 7, 3) := by decide +kernel
theorem dX8_partsOf_26 : decode cX8_partsOf 26 = .ok (.iconst 1, 1) := by decide +kernel
theorem dX8_partsOf_27 : decode cX8_partsOf 27 = .ok (.goto 15, 3) := by decide +kernel
theorem dX8_partsOf_30 : decode cX8_partsOf 30 = .ok (.iload_n 1, 1) := by decide +kernel
theorem dX8_partsOf_31 : decode cX8_partsOf 31 = .ok (.sipush 10000, 3) := by decide +kernel
theorem dX8_partsOf_34 : decode cX8_partsOf 34 = .ok (.if_icmp .ge 7, 3) := by decide +kernel
theorem dX8_partsOf_37 : decode cX8_partsOf 37 = .ok (.iconst 2, 1) := by decide +kernel
theorem dX8_partsOf_38 : decode cX8_partsOf 38 = .ok (.goto 4, 3) := by decide +kernel
theorem dX8_partsOf_41 : decode cX8_partsOf 41 = .ok (.iconst 3, 1) := by decide +kernel
theorem dX8_partsOf_42 : decode cX8_partsOf 42 = .ok (.istore 4, 2) := by decide +kernel
theorem dX8_partsOf_44 : decode cX8_partsOf 44 = .ok (.iload_n 1, 1) := by decide +kernel
theorem dX8_partsOf_45 : decode cX8_partsOf 45 = .ok (.istore 5, 2) := by decide +kernel
theorem dX8_partsOf_47 : decode cX8_partsOf 47 = .ok (.iload 4, 2) := by decide +kernel
theorem dX8_partsOf_49 : decode cX8_partsOf 49 = .ok (.iconst 1, 1) := by decide +kernel
theorem dX8_partsOf_50 : decode cX8_partsOf 50 = .ok (.isub, 1) := by decide +kernel
theorem dX8_partsOf_51 : decode cX8_partsOf 51 = .ok (.istore 6, 2) := by decide +kernel
theorem dX8_partsOf_53 : decode cX8_partsOf 53 = .ok (.iload 6, 2) := by decide +kernel
theorem dX8_partsOf_55 : decode cX8_partsOf 55 = .ok (.ifCond .lt 48, 3) := by decide +kernel
theorem dX8_partsOf_58 : decode cX8_partsOf 58 = .ok (.iload 5, 2) := by decide +kernel
theorem dX8_partsOf_60 : decode cX8_partsOf 60 = .ok (.bipush 100, 2) := by decide +kernel
theorem dX8_partsOf_62 : decode cX8_partsOf 62 = .ok (.irem, 1) := by decide +kernel
theorem dX8_partsOf_63 : decode cX8_partsOf 63 = .ok (.istore 7, 2) := by decide +kernel
theorem dX8_partsOf_65 : decode cX8_partsOf 65 = .ok (.iload 7, 2) := by decide +kernel
theorem dX8_partsOf_67 : decode cX8_partsOf 67 = .ok (.iconst 1, 1) := by decide +kernel
theorem dX8_partsOf_68 : decode cX8_partsOf 68 = .ok (.bipush 12, 2) := by decide +kernel
theorem dX8_partsOf_70 : decode cX8_partsOf 70 = .ok (.invokestatic 100, 3) := by decide +kernel
theorem dX8_partsOf_73 : decode cX8_partsOf 73 = .ok (.ifCond .ne 5, 3) := by decide +kernel
theorem dX8_partsOf_76 : decode cX8_partsOf 76 = .ok (.iconst (-1), 1) := by decide +kernel
theorem dX8_partsOf_77 : decode cX8_partsOf 77 = .ok (.ireturn, 1) := by decide +kernel
theorem dX8_partsOf_78 : decode cX8_partsOf 78 = .ok (.aload_n 2, 1) := by decide +kernel
theorem dX8_partsOf_79 : decode cX8_partsOf 79 = .ok (.ifnull 11, 3) := by decide +kernel
theorem dX8_partsOf_82 : decode cX8_partsOf 82 = .ok (.aload_n 2, 1) := by decide +kernel
theorem dX8_partsOf_83 : decode cX8_partsOf 83 = .ok (.iload_n 3, 1) := by decide +kernel
theorem dX8_partsOf_84 : decode cX8_partsOf 84 = .ok (.iload 6, 2) := by decide +kernel
theorem dX8_partsOf_86 : decode cX8_partsOf 86 = .ok (.iadd, 1) := by decide +kernel
theorem dX8_partsOf_87 : decode cX8_partsOf 87 = .ok (.iload 7, 2) := by decide +kernel
theorem dX8_partsOf_89 : decode cX8_partsOf 89 = .ok (.iastore, 1) := by decide +kernel
theorem dX8_partsOf_90 : decode cX8_partsOf 90 = .ok (.iload 5, 2) := by decide +kernel
theorem dX8_partsOf_92 : decode cX8_partsOf 92 = .ok (.bipush 100, 2) := by decide +kernel
theorem dX8_partsOf_94 : decode cX8_partsOf 94 = .ok (.idiv, 1) := by decide +kernel
theorem dX8_partsOf_95 : decode cX8_partsOf 95 = .ok (.istore 5, 2) := by decide +kernel
theorem dX8_partsOf_97 : decode cX8_partsOf 97 = .ok (.iinc 6 (-1), 3) := by decide +kernel
theorem dX8_partsOf_100 : decode cX8_partsOf 100 = .ok (.goto (-47), 3) := by decide +kernel
theorem dX8_partsOf_103 : decode cX8_partsOf 103 = .ok (.iload 4, 2) := by decide +kernel
theorem dX8_partsOf_105 : decode cX8_partsOf 105 = .ok (.ireturn, 1) := by decide +kernel
theorem dX8_areWords_0 : decode cX8_areWords 0 = .ok (.iconst 0, 1) := by decide +kernel
theorem dX8_areWords_1 : decode cX8_areWords 1 = .ok (.istore_n 2, 1) := by decide +kernel
theorem dX8_areWords_2 : decode cX8_areWords 2 = .ok (.iload_n 2, 1) := by decide +kernel
theorem dX8_areWords_3 : decode cX8_areWords 3 = .ok (.iconst 4, 1) := by decide +kernel
theorem dX8_areWords_4 : decode cX8_areWords 4 = .ok (.if_icmp .ge 47, 3) := by decide +kernel
theorem dX8_areWords_7 : decode cX8_areWords 7 = .ok (.iload_n 0, 1) := by decide +kernel
theorem dX8_areWords_8 : decode cX8_areWords 8 = .ok (.bipush 24, 2) := by decide +kernel
theorem dX8_areWords_10 : decode cX8_areWords 10 = .ok (.bipush 8, 2) := by decide +kernel
theorem dX8_areWords_12 : decode cX8_areWords 12 = .ok (.iload_n 2, 1) := by decide +kernel
theorem dX8_areWords_13 : decode cX8_areWords 13 = .ok (.imul, 1) := by decide +kernel
theorem dX8_areWords_14 : decode cX8_areWords 14 = .ok (.isub, 1) := by decide +kernel
theorem dX8_areWords_15 : decode cX8_areWords 15 = .ok (.iushr, 1) := by decide +kernel
theorem dX8_areWords_16 : decode cX8_areWords 16 = .ok (.sipush 255, 3) := by decide +kernel
theorem dX8_areWords_19 : decode cX8_areWords 19 = .ok (.iand, 1) := by decide +kernel
theorem dX8_areWords_20 : decode cX8_areWords 20 = .ok (.bipush 26, 2) := by decide +kernel
theorem dX8_areWords_22 : decode cX8_areWords 22 = .ok (.if_icmp .gt 21, 3) := by decide +kernel
theorem dX8_areWords_25 : decode cX8_areWords 25 = .ok (.iload_n 1, 1) := by decide +kernel
theorem dX8_areWords_26 : decode cX8_areWords 26 = .ok (.bipush 24, 2) := by decide +kernel
theorem dX8_areWords_28 : decode cX8_areWords 28 = .ok (.bipush 8, 2) := by decide +kernel
theorem dX8_areWords_30 : decode cX8_areWords 30 = .ok (.iload_n 2, 1) := by decide +kernel
theorem dX8_areWords_31 : decode cX8_areWords 31 = .ok (.imul, 1) := by decide +kernel
theorem dX8_areWords_32 : decode cX8_areWords 32 = .ok (.isub, 1) := by decide +kernel
theorem dX8_areWords_33 : decode cX8_areWords 33 = .ok (.iushr, 1) := by decide +kernel
theorem dX8_areWords_34 : decode cX8_areWords 34 = .ok (.sipush 255, 3) := by decide +kernel
theorem dX8_areWords_37 : decode cX8_areWords 37 = .ok (.iand, 1) := by decide +kernel
theorem dX8_areWords_38 : decode cX8_areWords 38 = .ok (.bipush 26, 2) := by decide +kernel
theorem dX8_areWords_40 : decode cX8_areWords 40 = .ok (.if_icmp .le 5, 3) := by decide +kernel
theorem dX8_areWords_43 : decode cX8_areWords 43 = .ok (.iconst 0, 1) := by decide +kernel
theorem dX8_areWords_44 : decode cX8_areWords 44 = .ok (.ireturn, 1) := by decide +kernel
theorem dX8_areWords_45 : decode cX8_areWords 45 = .ok (.iinc 2 1, 3) := by decide +kernel
theorem dX8_areWords_48 : decode cX8_areWords 48 = .ok (.goto (-46), 3) := by decide +kernel
theorem dX8_areWords_51 : decode cX8_areWords 51 = .ok (.iconst 1, 1) := by decide +kernel
theorem dX8_areWords_52 : decode cX8_areWords 52 = .ok (.ireturn, 1) := by decide +kernel
theorem dX8_layWords_0 : decode cX8_layWords 0 = .ok (.iconst 0, 1) := by decide +kernel
theorem dX8_layWords_1 : decode cX8_layWords 1 = .ok (.istore 4, 2) := by decide +kernel
theorem dX8_layWords_3 : decode cX8_layWords 3 = .ok (.iload 4, 2) := by decide +kernel
theorem dX8_layWords_5 : decode cX8_layWords 5 = .ok (.iconst 4, 1) := by decide +kernel
theorem dX8_layWords_6 : decode cX8_layWords 6 = .ok (.if_icmp .ge 51, 3) := by decide +kernel
theorem dX8_layWords_9 : decode cX8_layWords 9 = .ok (.aload_n 2, 1) := by decide +kernel
theorem dX8_layWords_10 : decode cX8_layWords 10 = .ok (.iload_n 3, 1) := by decide +kernel
theorem dX8_layWords_11 : decode cX8_layWords 11 = .ok (.iload 4, 2) := by decide +kernel
theorem dX8_layWords_13 : decode cX8_layWords 13 = .ok (.iadd, 1) := by decide +kernel
theorem dX8_layWords_14 : decode cX8_layWords 14 = .ok (.iload_n 0, 1) := by decide +kernel
theorem dX8_layWords_15 : decode cX8_layWords 15 = .ok (.bipush 24, 2) := by decide +kernel
theorem dX8_layWords_17 : decode cX8_layWords 17 = .ok (.bipush 8, 2) := by decide +kernel
theorem dX8_layWords_19 : decode cX8_layWords 19 = .ok (.iload 4, 2) := by decide +kernel
theorem dX8_layWords_21 : decode cX8_layWords 21 = .ok (.imul, 1) := by decide +kernel
theorem dX8_layWords_22 : decode cX8_layWords 22 = .ok (.isub, 1) := by decide +kernel
theorem dX8_layWords_23 : decode cX8_layWords 23 = .ok (.iushr, 1) := by decide +kernel
theorem dX8_layWords_24 : decode cX8_layWords 24 = .ok (.sipush 255, 3) := by decide +kernel
theorem dX8_layWords_27 : decode cX8_layWords 27 = .ok (.iand, 1) := by decide +kernel
theorem dX8_layWords_28 : decode cX8_layWords 28 = .ok (.iastore, 1) := by decide +kernel
theorem dX8_layWords_29 : decode cX8_layWords 29 = .ok (.aload_n 2, 1) := by decide +kernel
theorem dX8_layWords_30 : decode cX8_layWords 30 = .ok (.iload_n 3, 1) := by decide +kernel
theorem dX8_layWords_31 : decode cX8_layWords 31 = .ok (.iconst 4, 1) := by decide +kernel
theorem dX8_layWords_32 : decode cX8_layWords 32 = .ok (.iadd, 1) := by decide +kernel
theorem dX8_layWords_33 : decode cX8_layWords 33 = .ok (.iload 4, 2) := by decide +kernel
theorem dX8_layWords_35 : decode cX8_layWords 35 = .ok (.iadd, 1) := by decide +kernel
theorem dX8_layWords_36 : decode cX8_layWords 36 = .ok (.iload_n 1, 1) := by decide +kernel
theorem dX8_layWords_37 : decode cX8_layWords 37 = .ok (.bipush 24, 2) := by decide +kernel
theorem dX8_layWords_39 : decode cX8_layWords 39 = .ok (.bipush 8, 2) := by decide +kernel
theorem dX8_layWords_41 : decode cX8_layWords 41 = .ok (.iload 4, 2) := by decide +kernel
theorem dX8_layWords_43 : decode cX8_layWords 43 = .ok (.imul, 1) := by decide +kernel
theorem dX8_layWords_44 : decode cX8_layWords 44 = .ok (.isub, 1) := by decide +kernel
theorem dX8_layWords_45 : decode cX8_layWords 45 = .ok (.iushr, 1) := by decide +kernel
theorem dX8_layWords_46 : decode cX8_layWords 46 = .ok (.sipush 255, 3) := by decide +kernel
theorem dX8_layWords_49 : decode cX8_layWords 49 = .ok (.iand, 1) := by decide +kernel
theorem dX8_layWords_50 : decode cX8_layWords 50 = .ok (.iastore, 1) := by decide +kernel
theorem dX8_layWords_51 : decode cX8_layWords 51 = .ok (.iinc 4 1, 3) := by decide +kernel
theorem dX8_layWords_54 : decode cX8_layWords 54 = .ok (.goto (-51), 3) := by decide +kernel
theorem dX8_layWords_57 : decode cX8_layWords 57 = .ok (.return_, 1) := by decide +kernel
theorem dX8_line_0 : decode cX8_line 0 = .ok (.aload_n 0, 1) := by decide +kernel
theorem dX8_line_1 : decode cX8_line 1 = .ok (.iconst 0, 1) := by decide +kernel
theorem dX8_line_2 : decode cX8_line 2 = .ok (.putfield 94, 3) := by decide +kernel
theorem dX8_line_5 : decode cX8_line 5 = .ok (.iload_n 1, 1) := by decide +kernel
theorem dX8_line_6 : decode cX8_line 6 = .ok (.iconst 0, 1) := by decide +kernel
theorem dX8_line_7 : decode cX8_line 7 = .ok (.aload_n 0, 1) := by decide +kernel
theorem dX8_line_8 : decode cX8_line 8 = .ok (.getfield 9, 3) := by decide +kernel
theorem dX8_line_11 : decode cX8_line 11 = .ok (.iconst 1, 1) := by decide +kernel
theorem dX8_line_12 : decode cX8_line 12 = .ok (.isub, 1) := by decide +kernel
theorem dX8_line_13 : decode cX8_line 13 = .ok (.invokestatic 100, 3) := by decide +kernel
theorem dX8_line_16 : decode cX8_line 16 = .ok (.ifCond .eq 76, 3) := by decide +kernel
theorem dX8_line_19 : decode cX8_line 19 = .ok (.iload_n 2, 1) := by decide +kernel
theorem dX8_line_20 : decode cX8_line 20 = .ok (.iconst 0, 1) := by decide +kernel
theorem dX8_line_21 : decode cX8_line 21 = .ok (.bipush 9, 2) := by decide +kernel
theorem dX8_line_23 : decode cX8_line 23 = .ok (.invokestatic 100, 3) := by decide +kernel
theorem dX8_line_26 : decode cX8_line 26 = .ok (.ifCond .eq 66, 3) := by decide +kernel
theorem dX8_line_29 : decode cX8_line 29 = .ok (.iload_n 3, 1) := by decide +kernel
theorem dX8_line_30 : decode cX8_line 30 = .ok (.iconst 0, 1) := by decide +kernel
theorem dX8_line_31 : decode cX8_line 31 = .ok (.bipush 9, 2) := by decide +kernel
theorem dX8_line_33 : decode cX8_line 33 = .ok (.invokestatic 100, 3) := by decide +kernel
theorem dX8_line_36 : decode cX8_line 36 = .ok (.ifCond .eq 56, 3) := by decide +kernel
theorem dX8_line_39 : decode cX8_line 39 = .ok (.iload 5, 2) := by decide +kernel
theorem dX8_line_41 : decode cX8_line 41 = .ok (.iload 6, 2) := by decide +kernel
theorem dX8_line_43 : decode cX8_line 43 = .ok (.invokestatic 112, 3) := by decide +kernel
theorem dX8_line_46 : decode cX8_line 46 = .ok (.ifCond .eq 46, 3) := by decide +kernel
theorem dX8_line_49 : decode cX8_line 49 = .ok (.aload_n 0, 1) := by decide +kernel
theorem dX8_line_50 : decode cX8_line 50 = .ok (.iload 7, 2) := by decide +kernel
theorem dX8_line_52 : decode cX8_line 52 = .ok (.aconst_null, 1) := by decide +kernel
theorem dX8_line_53 : decode cX8_line 53 = .ok (.iconst 0, 1) := by decide +kernel
theorem dX8_line_54 : decode cX8_line 54 = .ok (.invokevirtual 116, 3) := by decide +kernel
theorem dX8_line_57 : decode cX8_line 57 = .ok (.iconst (-1), 1) := by decide +kernel
theorem dX8_line_58 : decode cX8_line 58 = .ok (.if_icmp .eq 34, 3) := by decide +kernel
theorem dX8_line_61 : decode cX8_line 61 = .ok (.aload_n 0, 1) := by decide +kernel
theorem dX8_line_62 : decode cX8_line 62 = .ok (.getfield 97, 3) := by decide +kernel
theorem dX8_line_65 : decode cX8_line 65 = .ok (.bipush 20, 2) := by decide +kernel
theorem dX8_line_67 : decode cX8_line 67 = .ok (.if_icmp .eq 25, 3) := by decide +kernel
theorem dX8_line_70 : decode cX8_line 70 = .ok (.aload_n 0, 1) := by decide +kernel
theorem dX8_line_71 : decode cX8_line 71 = .ok (.getfield 97, 3) := by decide +kernel
theorem dX8_line_74 : decode cX8_line 74 = .ok (.ifCond .le 20, 3) := by decide +kernel
theorem dX8_line_77 : decode cX8_line 77 = .ok (.iload_n 1, 1) := by decide +kernel
theorem dX8_line_78 : decode cX8_line 78 = .ok (.aload_n 0, 1) := by decide +kernel
theorem dX8_line_79 : decode cX8_line 79 = .ok (.getfield 17, 3) := by decide +kernel
theorem dX8_line_82 : decode cX8_line 82 = .ok (.aload_n 0, 1) := by decide +kernel
theorem dX8_line_83 : decode cX8_line 83 = .ok (.getfield 97, 3) := by decide +kernel
theorem dX8_line_86 : decode cX8_line 86 = .ok (.iconst 1, 1) := by decide +kernel
theorem dX8_line_87 : decode cX8_line 87 = .ok (.isub, 1) := by decide +kernel
theorem dX8_line_88 : decode cX8_line 88 = .ok (.iaload, 1) := by decide +kernel
theorem dX8_line_89 : decode cX8_line 89 = .ok (.if_icmp .ge 5, 3) := by decide +kernel
theorem dX8_line_92 : decode cX8_line 92 = .ok (.iconst (-1), 1) := by decide +kernel
theorem dX8_line_93 : decode cX8_line 93 = .ok (.ireturn, 1) := by decide +kernel
theorem dX8_line_94 : decode cX8_line 94 = .ok (.aload_n 0, 1) := by decide +kernel
theorem dX8_line_95 : decode cX8_line 95 = .ok (.getfield 17, 3) := by decide +kernel
theorem dX8_line_98 : decode cX8_line 98 = .ok (.aload_n 0, 1) := by decide +kernel
theorem dX8_line_99 : decode cX8_line 99 = .ok (.getfield 97, 3) := by decide +kernel
theorem dX8_line_102 : decode cX8_line 102 = .ok (.iload_n 1, 1) := by decide +kernel
theorem dX8_line_103 : decode cX8_line 103 = .ok (.iastore, 1) := by decide +kernel
theorem dX8_line_104 : decode cX8_line 104 = .ok (.aload_n 0, 1) := by decide +kernel
theorem dX8_line_105 : decode cX8_line 105 = .ok (.getfield 20, 3) := by decide +kernel
theorem dX8_line_108 : decode cX8_line 108 = .ok (.aload_n 0, 1) := by decide +kernel
theorem dX8_line_109 : decode cX8_line 109 = .ok (.getfield 97, 3) := by decide +kernel
theorem dX8_line_112 : decode cX8_line 112 = .ok (.iload_n 2, 1) := by decide +kernel
theorem dX8_line_113 : decode cX8_line 113 = .ok (.iastore, 1) := by decide +kernel
theorem dX8_line_114 : decode cX8_line 114 = .ok (.aload_n 0, 1) := by decide +kernel
theorem dX8_line_115 : decode cX8_line 115 = .ok (.getfield 23, 3) := by decide +kernel
theorem dX8_line_118 : decode cX8_line 118 = .ok (.aload_n 0, 1) := by decide +kernel
theorem dX8_line_119 : decode cX8_line 119 = .ok (.getfield 97, 3) := by decide +kernel
theorem dX8_line_122 : decode cX8_line 122 = .ok (.iload_n 3, 1) := by decide +kernel
theorem dX8_line_123 : decode cX8_line 123 = .ok (.iastore, 1) := by decide +kernel
theorem dX8_line_124 : decode cX8_line 124 = .ok (.aload_n 0, 1) := by decide +kernel
theorem dX8_line_125 : decode cX8_line 125 = .ok (.getfield 26, 3) := by decide +kernel
theorem dX8_line_128 : decode cX8_line 128 = .ok (.aload_n 0, 1) := by decide +kernel
theorem dX8_line_129 : decode cX8_line 129 = .ok (.getfield 97, 3) := by decide +kernel
theorem dX8_line_132 : decode cX8_line 132 = .ok (.iload 4, 2) := by decide +kernel
theorem dX8_line_134 : decode cX8_line 134 = .ok (.bastore, 1) := by decide +kernel
theorem dX8_line_135 : decode cX8_line 135 = .ok (.iload 5, 2) := by decide +kernel
theorem dX8_line_137 : decode cX8_line 137 = .ok (.iload 6, 2) := by decide +kernel
theorem dX8_line_139 : decode cX8_line 139 = .ok (.aload_n 0, 1) := by decide +kernel
theorem dX8_line_140 : decode cX8_line 140 = .ok (.getfield 30, 3) := by decide +kernel
theorem dX8_line_143 : decode cX8_line 143 = .ok (.bipush 8, 2) := by decide +kernel
theorem dX8_line_145 : decode cX8_line 145 = .ok (.aload_n 0, 1) := by decide +kernel
theorem dX8_line_146 : decode cX8_line 146 = .ok (.getfield 97, 3) := by decide +kernel
theorem dX8_line_149 : decode cX8_line 149 = .ok (.imul, 1) := by decide +kernel
theorem dX8_line_150 : decode cX8_line 150 = .ok (.invokestatic 120, 3) := by decide +kernel
theorem dX8_line_153 : decode cX8_line 153 = .ok (.aload_n 0, 1) := by decide +kernel
theorem dX8_line_154 : decode cX8_line 154 = .ok (.getfield 33, 3) := by decide +kernel
theorem dX8_line_157 : decode cX8_line 157 = .ok (.aload_n 0, 1) := by decide +kernel
theorem dX8_line_158 : decode cX8_line 158 = .ok (.getfield 97, 3) := by decide +kernel
theorem dX8_line_161 : decode cX8_line 161 = .ok (.aload_n 0, 1) := by decide +kernel
theorem dX8_line_162 : decode cX8_line 162 = .ok (.iload 7, 2) := by decide +kernel
theorem dX8_line_164 : decode cX8_line 164 = .ok (.aload_n 0, 1) := by decide +kernel
theorem dX8_line_165 : decode cX8_line 165 = .ok (.getfield 36, 3) := by decide +kernel
theorem dX8_line_168 : decode cX8_line 168 = .ok (.iconst 3, 1) := by decide +kernel
theorem dX8_line_169 : decode cX8_line 169 = .ok (.aload_n 0, 1) := by decide +kernel
theorem dX8_line_170 : decode cX8_line 170 = .ok (.getfield 97, 3) := by decide +kernel
theorem dX8_line_173 : decode cX8_line 173 = .ok (.imul, 1) := by decide +kernel
theorem dX8_line_174 : decode cX8_line 174 = .ok (.invokevirtual 116, 3) := by decide +kernel
theorem dX8_line_177 : decode cX8_line 177 = .ok (.iastore, 1) := by decide +kernel
theorem dX8_line_178 : decode cX8_line 178 = .ok (.aload_n 0, 1) := by decide +kernel
theorem dX8_line_179 : decode cX8_line 179 = .ok (.dup, 1) := by decide +kernel
theorem dX8_line_180 : decode cX8_line 180 = .ok (.getfield 97, 3) := by decide +kernel
theorem dX8_line_183 : decode cX8_line 183 = .ok (.iconst 1, 1) := by decide +kernel
theorem dX8_line_184 : decode cX8_line 184 = .ok (.iadd, 1) := by decide +kernel
theorem dX8_line_185 : decode cX8_line 185 = .ok (.putfield 97, 3) := by decide +kernel
theorem dX8_line_188 : decode cX8_line 188 = .ok (.aload_n 0, 1) := by decide +kernel
theorem dX8_line_189 : decode cX8_line 189 = .ok (.iconst 0, 1) := by decide +kernel
theorem dX8_line_190 : decode cX8_line 190 = .ok (.putfield 107, 3) := by decide +kernel
theorem dX8_line_193 : decode cX8_line 193 = .ok (.aload_n 0, 1) := by decide +kernel
theorem dX8_line_194 : decode cX8_line 194 = .ok (.getfield 97, 3) := by decide +kernel
theorem dX8_line_197 : decode cX8_line 197 = .ok (.iconst 1, 1) := by decide +kernel
theorem dX8_line_198 : decode cX8_line 198 = .ok (.isub, 1) := by decide +kernel
theorem dX8_line_199 : decode cX8_line 199 = .ok (.ireturn, 1) := by decide +kernel
theorem dX8_right_0 : decode cX8_right 0 = .ok (.aload_n 0, 1) := by decide +kernel
theorem dX8_right_1 : decode cX8_right 1 = .ok (.iconst 0, 1) := by decide +kernel
theorem dX8_right_2 : decode cX8_right 2 = .ok (.putfield 94, 3) := by decide +kernel
theorem dX8_right_5 : decode cX8_right 5 = .ok (.aload_n 0, 1) := by decide +kernel
theorem dX8_right_6 : decode cX8_right 6 = .ok (.iload_n 1, 1) := by decide +kernel
theorem dX8_right_7 : decode cX8_right 7 = .ok (.invokevirtual 124, 3) := by decide +kernel
theorem dX8_right_10 : decode cX8_right 10 = .ok (.ifCond .eq 24, 3) := by decide +kernel
theorem dX8_right_13 : decode cX8_right 13 = .ok (.iload_n 2, 1) := by decide +kernel
theorem dX8_right_14 : decode cX8_right 14 = .ok (.iconst 0, 1) := by decide +kernel
theorem dX8_right_15 : decode cX8_right 15 = .ok (.bipush 9, 2) := by decide +kernel
theorem dX8_right_17 : decode cX8_right 17 = .ok (.invokestatic 100, 3) := by decide +kernel
theorem dX8_right_20 : decode cX8_right 20 = .ok (.ifCond .eq 14, 3) := by decide +kernel
theorem dX8_right_23 : decode cX8_right 23 = .ok (.aload_n 0, 1) := by decide +kernel
theorem dX8_right_24 : decode cX8_right 24 = .ok (.iload_n 3, 1) := by decide +kernel
theorem dX8_right_25 : decode cX8_right 25 = .ok (.aconst_null, 1) := by decide +kernel
theorem dX8_right_26 : decode cX8_right 26 = .ok (.iconst 0, 1) := by decide +kernel
theorem dX8_right_27 : decode cX8_right 27 = .ok (.invokevirtual 116, 3) := by decide +kernel
theorem dX8_right_30 : decode cX8_right 30 = .ok (.iconst (-1), 1) := by decide +kernel
theorem dX8_right_31 : decode cX8_right 31 = .ok (.if_icmp .ne 5, 3) := by decide +kernel
theorem dX8_right_34 : decode cX8_right 34 = .ok (.iconst 0, 1) := by decide +kernel
theorem dX8_right_35 : decode cX8_right 35 = .ok (.ireturn, 1) := by decide +kernel
theorem dX8_right_36 : decode cX8_right 36 = .ok (.aload_n 0, 1) := by decide +kernel
theorem dX8_right_37 : decode cX8_right 37 = .ok (.getfield 20, 3) := by decide +kernel
theorem dX8_right_40 : decode cX8_right 40 = .ok (.iload_n 1, 1) := by decide +kernel
theorem dX8_right_41 : decode cX8_right 41 = .ok (.iload_n 2, 1) := by decide +kernel
theorem dX8_right_42 : decode cX8_right 42 = .ok (.iastore, 1) := by decide +kernel
theorem dX8_right_43 : decode cX8_right 43 = .ok (.aload_n 0, 1) := by decide +kernel
theorem dX8_right_44 : decode cX8_right 44 = .ok (.getfield 33, 3) := by decide +kernel
theorem dX8_right_47 : decode cX8_right 47 = .ok (.iload_n 1, 1) := by decide +kernel
theorem dX8_right_48 : decode cX8_right 48 = .ok (.aload_n 0, 1) := by decide +kernel
theorem dX8_right_49 : decode cX8_right 49 = .ok (.iload_n 3, 1) := by decide +kernel
theorem dX8_right_50 : decode cX8_right 50 = .ok (.aload_n 0, 1) := by decide +kernel
theorem dX8_right_51 : decode cX8_right 51 = .ok (.getfield 36, 3) := by decide +kernel
theorem dX8_right_54 : decode cX8_right 54 = .ok (.iconst 3, 1) := by decide +kernel
theorem dX8_right_55 : decode cX8_right 55 = .ok (.iload_n 1, 1) := by decide +kernel
theorem dX8_right_56 : decode cX8_right 56 = .ok (.imul, 1) := by decide +kernel
theorem dX8_right_57 : decode cX8_right 57 = .ok (.invokevirtual 116, 3) := by decide +kernel
theorem dX8_right_60 : decode cX8_right 60 = .ok (.iastore, 1) := by decide +kernel
theorem dX8_right_61 : decode cX8_right 61 = .ok (.aload_n 0, 1) := by decide +kernel
theorem dX8_right_62 : decode cX8_right 62 = .ok (.iconst 0, 1) := by decide +kernel
theorem dX8_right_63 : decode cX8_right 63 = .ok (.putfield 107, 3) := by decide +kernel
theorem dX8_right_66 : decode cX8_right 66 = .ok (.iconst 1, 1) := by decide +kernel
theorem dX8_right_67 : decode cX8_right 67 = .ok (.ireturn, 1) := by decide +kernel
theorem dX8_drop_0 : decode cX8_drop 0 = .ok (.aload_n 0, 1) := by decide +kernel
theorem dX8_drop_1 : decode cX8_drop 1 = .ok (.iconst 0, 1) := by decide +kernel
theorem dX8_drop_2 : decode cX8_drop 2 = .ok (.putfield 94, 3) := by decide +kernel
theorem dX8_drop_5 : decode cX8_drop 5 = .ok (.aload_n 0, 1) := by decide +kernel
theorem dX8_drop_6 : decode cX8_drop 6 = .ok (.getfield 97, 3) := by decide +kernel
theorem dX8_drop_9 : decode cX8_drop 9 = .ok (.ifCond .ne 5, 3) := by decide +kernel
theorem dX8_drop_12 : decode cX8_drop 12 = .ok (.iconst (-1), 1) := by decide +kernel
theorem dX8_drop_13 : decode cX8_drop 13 = .ok (.ireturn, 1) := by decide +kernel
theorem dX8_drop_14 : decode cX8_drop 14 = .ok (.aload_n 0, 1) := by decide +kernel
theorem dX8_drop_15 : decode cX8_drop 15 = .ok (.dup, 1) := by decide +kernel
theorem dX8_drop_16 : decode cX8_drop 16 = .ok (.getfield 97, 3) := by decide +kernel
theorem dX8_drop_19 : decode cX8_drop 19 = .ok (.iconst 1, 1) := by decide +kernel
theorem dX8_drop_20 : decode cX8_drop 20 = .ok (.isub, 1) := by decide +kernel
theorem dX8_drop_21 : decode cX8_drop 21 = .ok (.putfield 97, 3) := by decide +kernel
theorem dX8_drop_24 : decode cX8_drop 24 = .ok (.aload_n 0, 1) := by decide +kernel
theorem dX8_drop_25 : decode cX8_drop 25 = .ok (.iconst 0, 1) := by decide +kernel
theorem dX8_drop_26 : decode cX8_drop 26 = .ok (.putfield 107, 3) := by decide +kernel
theorem dX8_drop_29 : decode cX8_drop 29 = .ok (.aload_n 0, 1) := by decide +kernel
theorem dX8_drop_30 : decode cX8_drop 30 = .ok (.getfield 97, 3) := by decide +kernel
theorem dX8_drop_33 : decode cX8_drop 33 = .ok (.ireturn, 1) := by decide +kernel
theorem dX8_price_0 : decode cX8_price 0 = .ok (.aload_n 0, 1) := by decide +kernel
theorem dX8_price_1 : decode cX8_price 1 = .ok (.iconst 0, 1) := by decide +kernel
theorem dX8_price_2 : decode cX8_price 2 = .ok (.putfield 94, 3) := by decide +kernel
theorem dX8_price_5 : decode cX8_price 5 = .ok (.iload_n 1, 1) := by decide +kernel
theorem dX8_price_6 : decode cX8_price 6 = .ok (.iconst 0, 1) := by decide +kernel
theorem dX8_price_7 : decode cX8_price 7 = .ok (.bipush 9, 2) := by decide +kernel
theorem dX8_price_9 : decode cX8_price 9 = .ok (.invokestatic 100, 3) := by decide +kernel
theorem dX8_price_12 : decode cX8_price 12 = .ok (.ifCond .eq 13, 3) := by decide +kernel
theorem dX8_price_15 : decode cX8_price 15 = .ok (.iload_n 2, 1) := by decide +kernel
theorem dX8_price_16 : decode cX8_price 16 = .ok (.iconst 0, 1) := by decide +kernel
theorem dX8_price_17 : decode cX8_price 17 = .ok (.bipush 50, 2) := by decide +kernel
theorem dX8_price_19 : decode cX8_price 19 = .ok (.invokestatic 100, 3) := by decide +kernel
theorem dX8_price_22 : decode cX8_price 22 = .ok (.ifCond .ne 5, 3) := by decide +kernel
theorem dX8_price_25 : decode cX8_price 25 = .ok (.iconst (-1), 1) := by decide +kernel
theorem dX8_price_26 : decode cX8_price 26 = .ok (.ireturn, 1) := by decide +kernel
theorem dX8_price_27 : decode cX8_price 27 = .ok (.aload_n 0, 1) := by decide +kernel
theorem dX8_price_28 : decode cX8_price 28 = .ok (.getfield 39, 3) := by decide +kernel
theorem dX8_price_31 : decode cX8_price 31 = .ok (.iload_n 1, 1) := by decide +kernel
theorem dX8_price_32 : decode cX8_price 32 = .ok (.iaload, 1) := by decide +kernel
theorem dX8_price_33 : decode cX8_price 33 = .ok (.istore_n 3, 1) := by decide +kernel
theorem dX8_price_34 : decode cX8_price 34 = .ok (.aload_n 0, 1) := by decide +kernel
theorem dX8_price_35 : decode cX8_price 35 = .ok (.getfield 39, 3) := by decide +kernel
theorem dX8_price_38 : decode cX8_price 38 = .ok (.iload_n 1, 1) := by decide +kernel
theorem dX8_price_39 : decode cX8_price 39 = .ok (.iload_n 2, 1) := by decide +kernel
theorem dX8_price_40 : decode cX8_price 40 = .ok (.iastore, 1) := by decide +kernel
theorem dX8_price_41 : decode cX8_price 41 = .ok (.aload_n 0, 1) := by decide +kernel
theorem dX8_price_42 : decode cX8_price 42 = .ok (.iconst 0, 1) := by decide +kernel
theorem dX8_price_43 : decode cX8_price 43 = .ok (.putfield 107, 3) := by decide +kernel
theorem dX8_price_46 : decode cX8_price 46 = .ok (.iload_n 3, 1) := by decide +kernel
theorem dX8_price_47 : decode cX8_price 47 = .ok (.ireturn, 1) := by decide +kernel
theorem dX8_want_0 : decode cX8_want 0 = .ok (.aload_n 0, 1) := by decide +kernel
theorem dX8_want_1 : decode cX8_want 1 = .ok (.iconst 0, 1) := by decide +kernel
theorem dX8_want_2 : decode cX8_want 2 = .ok (.putfield 94, 3) := by decide +kernel
theorem dX8_want_5 : decode cX8_want 5 = .ok (.iload_n 1, 1) := by decide +kernel
theorem dX8_want_6 : decode cX8_want 6 = .ok (.iconst 0, 1) := by decide +kernel
theorem dX8_want_7 : decode cX8_want 7 = .ok (.iconst 3, 1) := by decide +kernel
theorem dX8_want_8 : decode cX8_want 8 = .ok (.invokestatic 100, 3) := by decide +kernel
theorem dX8_want_11 : decode cX8_want 11 = .ok (.ifCond .eq 30, 3) := by decide +kernel
theorem dX8_want_14 : decode cX8_want 14 = .ok (.iload_n 1, 1) := by decide +kernel
theorem dX8_want_15 : decode cX8_want 15 = .ok (.ifCond .ne 16, 3) := by decide +kernel
theorem dX8_want_18 : decode cX8_want 18 = .ok (.iload_n 2, 1) := by decide +kernel
theorem dX8_want_19 : decode cX8_want 19 = .ok (.iconst 2, 1) := by decide +kernel
theorem dX8_want_20 : decode cX8_want 20 = .ok (.bipush 60, 2) := by decide +kernel
theorem dX8_want_22 : decode cX8_want 22 = .ok (.invokestatic 100, 3) := by decide +kernel
theorem dX8_want_25 : decode cX8_want 25 = .ok (.ifCond .ne 18, 3) := by decide +kernel
theorem dX8_want_28 : decode cX8_want 28 = .ok (.goto 13, 3) := by decide +kernel
theorem dX8_want_31 : decode cX8_want 31 = .ok (.iload_n 2, 1) := by decide +kernel
theorem dX8_want_32 : decode cX8_want 32 = .ok (.iconst 0, 1) := by decide +kernel
theorem dX8_want_33 : decode cX8_want 33 = .ok (.bipush 21, 2) := by decide +kernel
theorem dX8_want_35 : decode cX8_want 35 = .ok (.invokestatic 100, 3) := by decide +kernel
theorem dX8_want_38 : decode cX8_want 38 = .ok (.ifCond .ne 5, 3) := by decide +kernel
theorem dX8_want_41 : decode cX8_want 41 = .ok (.iconst (-1), 1) := by decide +kernel
theorem dX8_want_42 : decode cX8_want 42 = .ok (.ireturn, 1) := by decide +kernel
theorem dX8_want_43 : decode cX8_want 43 = .ok (.aload_n 0, 1) := by decide +kernel
theorem dX8_want_44 : decode cX8_want 44 = .ok (.getfield 42, 3) := by decide +kernel
theorem dX8_want_47 : decode cX8_want 47 = .ok (.iload_n 1, 1) := by decide +kernel
theorem dX8_want_48 : decode cX8_want 48 = .ok (.iaload, 1) := by decide +kernel
theorem dX8_want_49 : decode cX8_want 49 = .ok (.istore_n 3, 1) := by decide +kernel
theorem dX8_want_50 : decode cX8_want 50 = .ok (.aload_n 0, 1) := by decide +kernel
theorem dX8_want_51 : decode cX8_want 51 = .ok (.getfield 42, 3) := by decide +kernel
theorem dX8_want_54 : decode cX8_want 54 = .ok (.iload_n 1, 1) := by decide +kernel
theorem dX8_want_55 : decode cX8_want 55 = .ok (.iload_n 2, 1) := by decide +kernel
theorem dX8_want_56 : decode cX8_want 56 = .ok (.iastore, 1) := by decide +kernel
theorem dX8_want_57 : decode cX8_want 57 = .ok (.aload_n 0, 1) := by decide +kernel
theorem dX8_want_58 : decode cX8_want 58 = .ok (.iconst 0, 1) := by decide +kernel
theorem dX8_want_59 : decode cX8_want 59 = .ok (.putfield 107, 3) := by decide +kernel
theorem dX8_want_62 : decode cX8_want 62 = .ok (.iload_n 3, 1) := by decide +kernel
theorem dX8_want_63 : decode cX8_want 63 = .ok (.ireturn, 1) := by decide +kernel
theorem dX8_entry_0 : decode cX8_entry 0 = .ok (.aload_n 0, 1) := by decide +kernel
theorem dX8_entry_1 : decode cX8_entry 1 = .ok (.iconst 0, 1) := by decide +kernel
theorem dX8_entry_2 : decode cX8_entry 2 = .ok (.putfield 94, 3) := by decide +kernel
theorem dX8_entry_5 : decode cX8_entry 5 = .ok (.iload_n 1, 1) := by decide +kernel
theorem dX8_entry_6 : decode cX8_entry 6 = .ok (.iconst 1, 1) := by decide +kernel
theorem dX8_entry_7 : decode cX8_entry 7 = .ok (.iconst 3, 1) := by decide +kernel
theorem dX8_entry_8 : decode cX8_entry 8 = .ok (.invokestatic 100, 3) := by decide +kernel
theorem dX8_entry_11 : decode cX8_entry 11 = .ok (.ifCond .eq 32, 3) := by decide +kernel
theorem dX8_entry_14 : decode cX8_entry 14 = .ok (.iload_n 2, 1) := by decide +kernel
theorem dX8_entry_15 : decode cX8_entry 15 = .ok (.iconst 0, 1) := by decide +kernel
theorem dX8_entry_16 : decode cX8_entry 16 = .ok (.sipush 999, 3) := by decide +kernel
theorem dX8_entry_19 : decode cX8_entry 19 = .ok (.invokestatic 100, 3) := by decide +kernel
theorem dX8_entry_22 : decode cX8_entry 22 = .ok (.ifCond .eq 21, 3) := by decide +kernel
theorem dX8_entry_25 : decode cX8_entry 25 = .ok (.iload_n 3, 1) := by decide +kernel
theorem dX8_entry_26 : decode cX8_entry 26 = .ok (.iload 4, 2) := by decide +kernel
theorem dX8_entry_28 : decode cX8_entry 28 = .ok (.invokestatic 112, 3) := by decide +kernel
theorem dX8_entry_31 : decode cX8_entry 31 = .ok (.ifCond .eq 12, 3) := by decide +kernel
theorem dX8_entry_34 : decode cX8_entry 34 = .ok (.aload_n 0, 1) := by decide +kernel
theorem dX8_entry_35 : decode cX8_entry 35 = .ok (.getfield 104, 3) := by decide +kernel
theorem dX8_entry_38 : decode cX8_entry 38 = .ok (.bipush 12, 2) := by decide +kernel
theorem dX8_entry_40 : decode cX8_entry 40 = .ok (.if_icmp .ne 5, 3) := by decide +kernel
theorem dX8_entry_43 : decode cX8_entry 43 = .ok (.iconst (-1), 1) := by decide +kernel
theorem dX8_entry_44 : decode cX8_entry 44 = .ok (.ireturn, 1) := by decide +kernel
theorem dX8_entry_45 : decode cX8_entry 45 = .ok (.aload_n 0, 1) := by decide +kernel
theorem dX8_entry_46 : decode cX8_entry 46 = .ok (.getfield 45, 3) := by decide +kernel
theorem dX8_entry_49 : decode cX8_entry 49 = .ok (.aload_n 0, 1) := by decide +kernel
theorem dX8_entry_50 : decode cX8_entry 50 = .ok (.getfield 104, 3) := by decide +kernel
theorem dX8_entry_53 : decode cX8_entry 53 = .ok (.iload_n 1, 1) := by decide +kernel
theorem dX8_entry_54 : decode cX8_entry 54 = .ok (.iastore, 1) := by decide +kernel
theorem dX8_entry_55 : decode cX8_entry 55 = .ok (.aload_n 0, 1) := by decide +kernel
theorem dX8_entry_56 : decode cX8_entry 56 = .ok (.getfield 48, 3) := by decide +kernel
theorem dX8_entry_59 : decode cX8_entry 59 = .ok (.aload_n 0, 1) := by decide +kernel
theorem dX8_entry_60 : decode cX8_entry 60 = .ok (.getfield 104, 3) := by decide +kernel
theorem dX8_entry_63 : decode cX8_entry 63 = .ok (.iload_n 2, 1) := by decide +kernel
theorem dX8_entry_64 : decode cX8_entry 64 = .ok (.iastore, 1) := by decide +kernel
theorem dX8_entry_65 : decode cX8_entry 65 = .ok (.iload_n 3, 1) := by decide +kernel
theorem dX8_entry_66 : decode cX8_entry 66 = .ok (.iload 4, 2) := by decide +kernel
theorem dX8_entry_68 : decode cX8_entry 68 = .ok (.aload_n 0, 1) := by decide +kernel
theorem dX8_entry_69 : decode cX8_entry 69 = .ok (.getfield 51, 3) := by decide +kernel
theorem dX8_entry_72 : decode cX8_entry 72 = .ok (.bipush 8, 2) := by decide +kernel
theorem dX8_entry_74 : decode cX8_entry 74 = .ok (.aload_n 0, 1) := by decide +kernel
theorem dX8_entry_75 : decode cX8_entry 75 = .ok (.getfield 104, 3) := by decide +kernel
theorem dX8_entry_78 : decode cX8_entry 78 = .ok (.imul, 1) := by decide +kernel
theorem dX8_entry_79 : decode cX8_entry 79 = .ok (.invokestatic 120, 3) := by decide +kernel
theorem dX8_entry_82 : decode cX8_entry 82 = .ok (.aload_n 0, 1) := by decide +kernel
theorem dX8_entry_83 : decode cX8_entry 83 = .ok (.dup, 1) := by decide +kernel
theorem dX8_entry_84 : decode cX8_entry 84 = .ok (.getfield 104, 3) := by decide +kernel
theorem dX8_entry_87 : decode cX8_entry 87 = .ok (.iconst 1, 1) := by decide +kernel
theorem dX8_entry_88 : decode cX8_entry 88 = .ok (.iadd, 1) := by decide +kernel
theorem dX8_entry_89 : decode cX8_entry 89 = .ok (.putfield 104, 3) := by decide +kernel
theorem dX8_entry_92 : decode cX8_entry 92 = .ok (.aload_n 0, 1) := by decide +kernel
theorem dX8_entry_93 : decode cX8_entry 93 = .ok (.iconst 0, 1) := by decide +kernel
theorem dX8_entry_94 : decode cX8_entry 94 = .ok (.putfield 107, 3) := by decide +kernel
theorem dX8_entry_97 : decode cX8_entry 97 = .ok (.aload_n 0, 1) := by decide +kernel
theorem dX8_entry_98 : decode cX8_entry 98 = .ok (.getfield 104, 3) := by decide +kernel
theorem dX8_entry_101 : decode cX8_entry 101 = .ok (.iconst 1, 1) := by decide +kernel
theorem dX8_entry_102 : decode cX8_entry 102 = .ok (.isub, 1) := by decide +kernel
theorem dX8_entry_103 : decode cX8_entry 103 = .ok (.ireturn, 1) := by decide +kernel
theorem dX8_clear_0 : decode cX8_clear 0 = .ok (.aload_n 0, 1) := by decide +kernel
theorem dX8_clear_1 : decode cX8_clear 1 = .ok (.iconst 0, 1) := by decide +kernel
theorem dX8_clear_2 : decode cX8_clear 2 = .ok (.putfield 94, 3) := by decide +kernel
theorem dX8_clear_5 : decode cX8_clear 5 = .ok (.aload_n 0, 1) := by decide +kernel
theorem dX8_clear_6 : decode cX8_clear 6 = .ok (.getfield 104, 3) := by decide +kernel
theorem dX8_clear_9 : decode cX8_clear 9 = .ok (.istore_n 1, 1) := by decide +kernel
theorem dX8_clear_10 : decode cX8_clear 10 = .ok (.aload_n 0, 1) := by decide +kernel
theorem dX8_clear_11 : decode cX8_clear 11 = .ok (.iconst 0, 1) := by decide +kernel
theorem dX8_clear_12 : decode cX8_clear 12 = .ok (.putfield 104, 3) := by decide +kernel
theorem dX8_clear_15 : decode cX8_clear 15 = .ok (.aload_n 0, 1) := by decide +kernel
theorem dX8_clear_16 : decode cX8_clear 16 = .ok (.iconst 0, 1) := by decide +kernel
theorem dX8_clear_17 : decode cX8_clear 17 = .ok (.putfield 107, 3) := by decide +kernel
theorem dX8_clear_20 : decode cX8_clear 20 = .ok (.iload_n 1, 1) := by decide +kernel
theorem dX8_clear_21 : decode cX8_clear 21 = .ok (.ireturn, 1) := by decide +kernel
theorem dX8_look_0 : decode cX8_look 0 = .ok (.aload_n 0, 1) := by decide +kernel
theorem dX8_look_1 : decode cX8_look 1 = .ok (.getfield 20, 3) := by decide +kernel
theorem dX8_look_4 : decode cX8_look 4 = .ok (.iload_n 1, 1) := by decide +kernel
theorem dX8_look_5 : decode cX8_look 5 = .ok (.iaload, 1) := by decide +kernel
theorem dX8_look_6 : decode cX8_look 6 = .ok (.aload_n 0, 1) := by decide +kernel
theorem dX8_look_7 : decode cX8_look 7 = .ok (.getfield 23, 3) := by decide +kernel
theorem dX8_look_10 : decode cX8_look 10 = .ok (.iload_n 1, 1) := by decide +kernel
theorem dX8_look_11 : decode cX8_look 11 = .ok (.iaload, 1) := by decide +kernel
theorem dX8_look_12 : decode cX8_look 12 = .ok (.iadd, 1) := by decide +kernel
theorem dX8_look_13 : decode cX8_look 13 = .ok (.aload_n 0, 1) := by decide +kernel
theorem dX8_look_14 : decode cX8_look 14 = .ok (.getfield 26, 3) := by decide +kernel
theorem dX8_look_17 : decode cX8_look 17 = .ok (.iload_n 1, 1) := by decide +kernel
theorem dX8_look_18 : decode cX8_look 18 = .ok (.baload, 1) := by decide +kernel
theorem dX8_look_19 : decode cX8_look 19 = .ok (.ifCond .eq 7, 3) := by decide +kernel
theorem dX8_look_22 : decode cX8_look 22 = .ok (.iconst 3, 1) := by decide +kernel
theorem dX8_look_23 : decode cX8_look 23 = .ok (.goto 4, 3) := by decide +kernel
theorem dX8_look_26 : decode cX8_look 26 = .ok (.iconst 0, 1) := by decide +kernel
theorem dX8_look_27 : decode cX8_look 27 = .ok (.iadd, 1) := by decide +kernel
theorem dX8_look_28 : decode cX8_look 28 = .ok (.ireturn, 1) := by decide +kernel
theorem dX8_areLike_0 : decode cX8_areLike 0 = .ok (.aload_n 0, 1) := by decide +kernel
theorem dX8_areLike_1 : decode cX8_areLike 1 = .ok (.getfield 20, 3) := by decide +kernel
theorem dX8_areLike_4 : decode cX8_areLike 4 = .ok (.iload_n 1, 1) := by decide +kernel
theorem dX8_areLike_5 : decode cX8_areLike 5 = .ok (.iaload, 1) := by decide +kernel
theorem dX8_areLike_6 : decode cX8_areLike 6 = .ok (.aload_n 0, 1) := by decide +kernel
theorem dX8_areLike_7 : decode cX8_areLike 7 = .ok (.getfield 20, 3) := by decide +kernel
theorem dX8_areLike_10 : decode cX8_areLike 10 = .ok (.iload_n 2, 1) := by decide +kernel
theorem dX8_areLike_11 : decode cX8_areLike 11 = .ok (.iaload, 1) := by decide +kernel
theorem dX8_areLike_12 : decode cX8_areLike 12 = .ok (.if_icmp .eq 5, 3) := by decide +kernel
theorem dX8_areLike_15 : decode cX8_areLike 15 = .ok (.iconst 0, 1) := by decide +kernel
theorem dX8_areLike_16 : decode cX8_areLike 16 = .ok (.ireturn, 1) := by decide +kernel
theorem dX8_areLike_17 : decode cX8_areLike 17 = .ok (.iconst 0, 1) := by decide +kernel
theorem dX8_areLike_18 : decode cX8_areLike 18 = .ok (.istore_n 3, 1) := by decide +kernel
theorem dX8_areLike_19 : decode cX8_areLike 19 = .ok (.iload_n 3, 1) := by decide +kernel
theorem dX8_areLike_20 : decode cX8_areLike 20 = .ok (.bipush 8, 2) := by decide +kernel
theorem dX8_areLike_22 : decode cX8_areLike 22 = .ok (.if_icmp .ge 36, 3) := by decide +kernel
theorem dX8_areLike_25 : decode cX8_areLike 25 = .ok (.aload_n 0, 1) := by decide +kernel
theorem dX8_areLike_26 : decode cX8_areLike 26 = .ok (.getfield 30, 3) := by decide +kernel
theorem dX8_areLike_29 : decode cX8_areLike 29 = .ok (.bipush 8, 2) := by decide +kernel
theorem dX8_areLike_31 : decode cX8_areLike 31 = .ok (.iload_n 1, 1) := by decide +kernel
theorem dX8_areLike_32 : decode cX8_areLike 32 = .ok (.imul, 1) := by decide +kernel
theorem dX8_areLike_33 : decode cX8_areLike 33 = .ok (.iload_n 3, 1) := by decide +kernel
theorem dX8_areLike_34 : decode cX8_areLike 34 = .ok (.iadd, 1) := by decide +kernel
theorem dX8_areLike_35 : decode cX8_areLike 35 = .ok (.iaload, 1) := by decide +kernel
theorem dX8_areLike_36 : decode cX8_areLike 36 = .ok (.aload_n 0, 1) := by decide +kernel
theorem dX8_areLike_37 : decode cX8_areLike 37 = .ok (.getfield 30, 3) := by decide +kernel
theorem dX8_areLike_40 : decode cX8_areLike 40 = .ok (.bipush 8, 2) := by decide +kernel
theorem dX8_areLike_42 : decode cX8_areLike 42 = .ok (.iload_n 2, 1) := by decide +kernel
theorem dX8_areLike_43 : decode cX8_areLike 43 = .ok (.imul, 1) := by decide +kernel
theorem dX8_areLike_44 : decode cX8_areLike 44 = .ok (.iload_n 3, 1) := by decide +kernel
theorem dX8_areLike_45 : decode cX8_areLike 45 = .ok (.iadd, 1) := by decide +kernel
theorem dX8_areLike_46 : decode cX8_areLike 46 = .ok (.iaload, 1) := by decide +kernel
theorem dX8_areLike_47 : decode cX8_areLike 47 = .ok (.if_icmp .eq 5, 3) := by decide +kernel
theorem dX8_areLike_50 : decode cX8_areLike 50 = .ok (.iconst 0, 1) := by decide +kernel
theorem dX8_areLike_51 : decode cX8_areLike 51 = .ok (.ireturn, 1) := by decide +kernel
theorem dX8_areLike_52 : decode cX8_areLike 52 = .ok (.iinc 3 1, 3) := by decide +kernel
theorem dX8_areLike_55 : decode cX8_areLike 55 = .ok (.goto (-36), 3) := by decide +kernel
theorem dX8_areLike_58 : decode cX8_areLike 58 = .ok (.iconst 1, 1) := by decide +kernel
theorem dX8_areLike_59 : decode cX8_areLike 59 = .ok (.ireturn, 1) := by decide +kernel
theorem dX8_isRunning_0 : decode cX8_isRunning 0 = .ok (.iconst 0, 1) := by decide +kernel
theorem dX8_isRunning_1 : decode cX8_isRunning 1 = .ok (.istore_n 2, 1) := by decide +kernel
theorem dX8_isRunning_2 : decode cX8_isRunning 2 = .ok (.iconst 0, 1) := by decide +kernel
theorem dX8_isRunning_3 : decode cX8_isRunning 3 = .ok (.istore_n 3, 1) := by decide +kernel
theorem dX8_isRunning_4 : decode cX8_isRunning 4 = .ok (.iload_n 3, 1) := by decide +kernel
theorem dX8_isRunning_5 : decode cX8_isRunning 5 = .ok (.bipush 8, 2) := by decide +kernel
theorem dX8_isRunning_7 : decode cX8_isRunning 7 = .ok (.if_icmp .ge 23, 3) := by decide +kernel
theorem dX8_isRunning_10 : decode cX8_isRunning 10 = .ok (.iload_n 2, 1) := by decide +kernel
theorem dX8_isRunning_11 : decode cX8_isRunning 11 = .ok (.aload_n 0, 1) := by decide +kernel
theorem dX8_isRunning_12 : decode cX8_isRunning 12 = .ok (.getfield 30, 3) := by decide +kernel
theorem dX8_isRunning_15 : decode cX8_isRunning 15 = .ok (.bipush 8, 2) := by decide +kernel
theorem dX8_isRunning_17 : decode cX8_isRunning 17 = .ok (.iload_n 1, 1) := by decide +kernel
theorem dX8_isRunning_18 : decode cX8_isRunning 18 = .ok (.imul, 1) := by decide +kernel
theorem dX8_isRunning_19 : decode cX8_isRunning 19 = .ok (.iload_n 3, 1) := by decide +kernel
theorem dX8_isRunning_20 : decode cX8_isRunning 20 = .ok (.iadd, 1) := by decide +kernel
theorem dX8_isRunning_21 : decode cX8_isRunning 21 = .ok (.iaload, 1) := by decide +kernel
theorem dX8_isRunning_22 : decode cX8_isRunning 22 = .ok (.ior, 1) := by decide +kernel
theorem dX8_isRunning_23 : decode cX8_isRunning 23 = .ok (.istore_n 2, 1) := by decide +kernel
theorem dX8_isRunning_24 : decode cX8_isRunning 24 = .ok (.iinc 3 1, 3) := by decide +kernel
theorem dX8_isRunning_27 : decode cX8_isRunning 27 = .ok (.goto (-23), 3) := by decide +kernel
theorem dX8_isRunning_30 : decode cX8_isRunning 30 = .ok (.iload_n 2, 1) := by decide +kernel
theorem dX8_isRunning_31 : decode cX8_isRunning 31 = .ok (.ifCond .ne 5, 3) := by decide +kernel
theorem dX8_isRunning_34 : decode cX8_isRunning 34 = .ok (.iconst 0, 1) := by decide +kernel
theorem dX8_isRunning_35 : decode cX8_isRunning 35 = .ok (.ireturn, 1) := by decide +kernel
theorem dX8_isRunning_36 : decode cX8_isRunning 36 = .ok (.iconst 0, 1) := by decide +kernel
theorem dX8_isRunning_37 : decode cX8_isRunning 37 = .ok (.istore_n 3, 1) := by decide +kernel
theorem dX8_isRunning_38 : decode cX8_isRunning 38 = .ok (.iconst (-1), 1) := by decide +kernel
theorem dX8_isRunning_39 : decode cX8_isRunning 39 = .ok (.istore 4, 2) := by decide +kernel
theorem dX8_isRunning_41 : decode cX8_isRunning 41 = .ok (.iconst 0, 1) := by decide +kernel
theorem dX8_isRunning_42 : decode cX8_isRunning 42 = .ok (.istore 5, 2) := by decide +kernel
theorem dX8_isRunning_44 : decode cX8_isRunning 44 = .ok (.iload 5, 2) := by decide +kernel
theorem dX8_isRunning_46 : decode cX8_isRunning 46 = .ok (.aload_n 0, 1) := by decide +kernel
theorem dX8_isRunning_47 : decode cX8_isRunning 47 = .ok (.getfield 97, 3) := by decide +kernel
theorem dX8_isRunning_50 : decode cX8_isRunning 50 = .ok (.if_icmp .ge 46, 3) := by decide +kernel
theorem dX8_isRunning_53 : decode cX8_isRunning 53 = .ok (.aload_n 0, 1) := by decide +kernel
theorem dX8_isRunning_54 : decode cX8_isRunning 54 = .ok (.iload 5, 2) := by decide +kernel
theorem dX8_isRunning_56 : decode cX8_isRunning 56 = .ok (.iload_n 1, 1) := by decide +kernel
theorem dX8_isRunning_57 : decode cX8_isRunning 57 = .ok (.invokevirtual 128, 3) := by decide +kernel
theorem dX8_isRunning_60 : decode cX8_isRunning 60 = .ok (.ifCond .eq 30, 3) := by decide +kernel
theorem dX8_isRunning_63 : decode cX8_isRunning 63 = .ok (.aload_n 0, 1) := by decide +kernel
theorem dX8_isRunning_64 : decode cX8_isRunning 64 = .ok (.getfield 17, 3) := by decide +kernel
theorem dX8_isRunning_67 : decode cX8_isRunning 67 = .ok (.iload 5, 2) := by decide +kernel
theorem dX8_isRunning_69 : decode cX8_isRunning 69 = .ok (.iaload, 1) := by decide +kernel
theorem dX8_isRunning_70 : decode cX8_isRunning 70 = .ok (.iload 4, 2) := by decide +kernel
theorem dX8_isRunning_72 : decode cX8_isRunning 72 = .ok (.if_icmp .ne 6, 3) := by decide +kernel
theorem dX8_isRunning_75 : decode cX8_isRunning 75 = .ok (.goto 15, 3) := by decide +kernel
theorem dX8_isRunning_78 : decode cX8_isRunning 78 = .ok (.aload_n 0, 1) := by decide +kernel
theorem dX8_isRunning_79 : decode cX8_isRunning 79 = .ok (.getfield 17, 3) := by decide +kernel
theorem dX8_isRunning_82 : decode cX8_isRunning 82 = .ok (.iload 5, 2) := by decide +kernel
theorem dX8_isRunning_84 : decode cX8_isRunning 84 = .ok (.iaload, 1) := by decide +kernel
theorem dX8_isRunning_85 : decode cX8_isRunning 85 = .ok (.istore 4, 2) := by decide +kernel
theorem dX8_isRunning_87 : decode cX8_isRunning 87 = .ok (.iinc 3 1, 3) := by decide +kernel
theorem dX8_isRunning_90 : decode cX8_isRunning 90 = .ok (.iinc 5 1, 3) := by decide +kernel
theorem dX8_isRunning_93 : decode cX8_isRunning 93 = .ok (.goto (-49), 3) := by decide +kernel
theorem dX8_isRunning_96 : decode cX8_isRunning 96 = .ok (.iload_n 3, 1) := by decide +kernel
theorem dX8_isRunning_97 : decode cX8_isRunning 97 = .ok (.aload_n 0, 1) := by decide +kernel
theorem dX8_isRunning_98 : decode cX8_isRunning 98 = .ok (.getfield 42, 3) := by decide +kernel
theorem dX8_isRunning_101 : decode cX8_isRunning 101 = .ok (.iconst 0, 1) := by decide +kernel
theorem dX8_isRunning_102 : decode cX8_isRunning 102 = .ok (.iaload, 1) := by decide +kernel
theorem dX8_isRunning_103 : decode cX8_isRunning 103 = .ok (.if_icmp .lt 7, 3) := by decide +kernel
theorem dX8_isRunning_106 : decode cX8_isRunning 106 = .ok (.iconst 1, 1) := by decide +kernel
theorem dX8_isRunning_107 : decode cX8_isRunning 107 = .ok (.goto 4, 3) := by decide +kernel
theorem dX8_isRunning_110 : decode cX8_isRunning 110 = .ok (.iconst 0, 1) := by decide +kernel
theorem dX8_isRunning_111 : decode cX8_isRunning 111 = .ok (.ireturn, 1) := by decide +kernel
theorem dX8_counterOf_0 : decode cX8_counterOf 0 = .ok (.iload_n 1, 1) := by decide +kernel
theorem dX8_counterOf_1 : decode cX8_counterOf 1 = .ok (.iconst 1, 1) := by decide +kernel
theorem dX8_counterOf_2 : decode cX8_counterOf 2 = .ok (.if_icmp .ne 11, 3) := by decide +kernel
theorem dX8_counterOf_5 : decode cX8_counterOf 5 = .ok (.iload_n 0, 1) := by decide +kernel
theorem dX8_counterOf_6 : decode cX8_counterOf 6 = .ok (.sipush 1089, 3) := by decide +kernel
theorem dX8_counterOf_9 : decode cX8_counterOf 9 = .ok (.idiv, 1) := by decide +kernel
theorem dX8_counterOf_10 : decode cX8_counterOf 10 = .ok (.goto 22, 3) := by decide +kernel
theorem dX8_counterOf_13 : decode cX8_counterOf 13 = .ok (.iload_n 1, 1) := by decide +kernel
theorem dX8_counterOf_14 : decode cX8_counterOf 14 = .ok (.iconst 2, 1) := by decide +kernel
theorem dX8_counterOf_15 : decode cX8_counterOf 15 = .ok (.if_icmp .ne 13, 3) := by decide +kernel
theorem dX8_counterOf_18 : decode cX8_counterOf 18 = .ok (.iload_n 0, 1) := by decide +kernel
theorem dX8_counterOf_19 : decode cX8_counterOf 19 = .ok (.bipush 33, 2) := by decide +kernel
theorem dX8_counterOf_21 : decode cX8_counterOf 21 = .ok (.idiv, 1) := by decide +kernel
theorem dX8_counterOf_22 : decode cX8_counterOf 22 = .ok (.bipush 33, 2) := by decide +kernel
theorem dX8_counterOf_24 : decode cX8_counterOf 24 = .ok (.irem, 1) := by decide +kernel
theorem dX8_counterOf_25 : decode cX8_counterOf 25 = .ok (.goto 7, 3) := by decide +kernel
theorem dX8_counterOf_28 : decode cX8_counterOf 28 = .ok (.iload_n 0, 1) := by decide +kernel
theorem dX8_counterOf_29 : decode cX8_counterOf 29 = .ok (.bipush 33, 2) := by decide +kernel
theorem dX8_counterOf_31 : decode cX8_counterOf 31 = .ok (.irem, 1) := by decide +kernel
theorem dX8_counterOf_32 : decode cX8_counterOf 32 = .ok (.ireturn, 1) := by decide +kernel
theorem dX8_behind_0 : decode cX8_behind 0 = .ok (.iload_n 3, 1) := by decide +kernel
theorem dX8_behind_1 : decode cX8_behind 1 = .ok (.iconst 1, 1) := by decide +kernel
theorem dX8_behind_2 : decode cX8_behind 2 = .ok (.if_icmp .le 15, 3) := by decide +kernel
theorem dX8_behind_5 : decode cX8_behind 5 = .ok (.iload_n 1, 1) := by decide +kernel
theorem dX8_behind_6 : decode cX8_behind 6 = .ok (.iload_n 3, 1) := by decide +kernel
theorem dX8_behind_7 : decode cX8_behind 7 = .ok (.iconst 1, 1) := by decide +kernel
theorem dX8_behind_8 : decode cX8_behind 8 = .ok (.isub, 1) := by decide +kernel
theorem dX8_behind_9 : decode cX8_behind 9 = .ok (.invokestatic 131, 3) := by decide +kernel
theorem dX8_behind_12 : decode cX8_behind 12 = .ok (.ifCond .ne 5, 3) := by decide +kernel
theorem dX8_behind_15 : decode cX8_behind 15 = .ok (.iconst (-1), 1) := by decide +kernel
theorem dX8_behind_16 : decode cX8_behind 16 = .ok (.ireturn, 1) := by decide +kernel
theorem dX8_behind_17 : decode cX8_behind 17 = .ok (.iload_n 1, 1) := by decide +kernel
theorem dX8_behind_18 : decode cX8_behind 18 = .ok (.iload_n 3, 1) := by decide +kernel
theorem dX8_behind_19 : decode cX8_behind 19 = .ok (.invokestatic 131, 3) := by decide +kernel
theorem dX8_behind_22 : decode cX8_behind 22 = .ok (.istore 4, 2) := by decide +kernel
theorem dX8_behind_24 : decode cX8_behind 24 = .ok (.iload 4, 2) := by decide +kernel
theorem dX8_behind_26 : decode cX8_behind 26 = .ok (.iconst 1, 1) := by decide +kernel
theorem dX8_behind_27 : decode cX8_behind 27 = .ok (.iadd, 1) := by decide +kernel
theorem dX8_behind_28 : decode cX8_behind 28 = .ok (.istore 5, 2) := by decide +kernel
theorem dX8_behind_30 : decode cX8_behind 30 = .ok (.aload_n 0, 1) := by decide +kernel
theorem dX8_behind_31 : decode cX8_behind 31 = .ok (.getfield 33, 3) := by decide +kernel
theorem dX8_behind_34 : decode cX8_behind 34 = .ok (.iload_n 2, 1) := by decide +kernel
theorem dX8_behind_35 : decode cX8_behind 35 = .ok (.iaload, 1) := by decide +kernel
theorem dX8_behind_36 : decode cX8_behind 36 = .ok (.ifCond .le 77, 3) := by decide +kernel
theorem dX8_behind_39 : decode cX8_behind 39 = .ok (.aload_n 0, 1) := by decide +kernel
theorem dX8_behind_40 : decode cX8_behind 40 = .ok (.getfield 33, 3) := by decide +kernel
theorem dX8_behind_43 : decode cX8_behind 43 = .ok (.iload_n 2, 1) := by decide +kernel
theorem dX8_behind_44 : decode cX8_behind 44 = .ok (.iaload, 1) := by decide +kernel
theorem dX8_behind_45 : decode cX8_behind 45 = .ok (.iload_n 3, 1) := by decide +kernel
theorem dX8_behind_46 : decode cX8_behind 46 = .ok (.if_icmp .eq 5, 3) := by decide +kernel
theorem dX8_behind_49 : decode cX8_behind 49 = .ok (.iconst (-1), 1) := by decide +kernel
theorem dX8_behind_50 : decode cX8_behind 50 = .ok (.ireturn, 1) := by decide +kernel
theorem dX8_behind_51 : decode cX8_behind 51 = .ok (.iconst 1, 1) := by decide +kernel
theorem dX8_behind_52 : decode cX8_behind 52 = .ok (.istore 6, 2) := by decide +kernel
theorem dX8_behind_54 : decode cX8_behind 54 = .ok (.iload 6, 2) := by decide +kernel
theorem dX8_behind_56 : decode cX8_behind 56 = .ok (.iload_n 3, 1) := by decide +kernel
theorem dX8_behind_57 : decode cX8_behind 57 = .ok (.if_icmp .ge 33, 3) := by decide +kernel
theorem dX8_behind_60 : decode cX8_behind 60 = .ok (.aload_n 0, 1) := by decide +kernel
theorem dX8_behind_61 : decode cX8_behind 61 = .ok (.getfield 36, 3) := by decide +kernel
theorem dX8_behind_64 : decode cX8_behind 64 = .ok (.iconst 3, 1) := by decide +kernel
theorem dX8_behind_65 : decode cX8_behind 65 = .ok (.iload_n 2, 1) := by decide +kernel
theorem dX8_behind_66 : decode cX8_behind 66 = .ok (.imul, 1) := by decide +kernel
theorem dX8_behind_67 : decode cX8_behind 67 = .ok (.iload 6, 2) := by decide +kernel
theorem dX8_behind_69 : decode cX8_behind 69 = .ok (.iadd, 1) := by decide +kernel
theorem dX8_behind_70 : decode cX8_behind 70 = .ok (.iconst 1, 1) := by decide +kernel
theorem dX8_behind_71 : decode cX8_behind 71 = .ok (.isub, 1) := by decide +kernel
theorem dX8_behind_72 : decode cX8_behind 72 = .ok (.iaload, 1) := by decide +kernel
theorem dX8_behind_73 : decode cX8_behind 73 = .ok (.iload_n 1, 1) := by decide +kernel
theorem dX8_behind_74 : decode cX8_behind 74 = .ok (.iload 6, 2) := by decide +kernel
theorem dX8_behind_76 : decode cX8_behind 76 = .ok (.invokestatic 131, 3) := by decide +kernel
theorem dX8_behind_79 : decode cX8_behind 79 = .ok (.if_icmp .eq 5, 3) := by decide +kernel
theorem dX8_behind_82 : decode cX8_behind 82 = .ok (.iconst (-1), 1) := by decide +kernel
theorem dX8_behind_83 : decode cX8_behind 83 = .ok (.ireturn, 1) := by decide +kernel
theorem dX8_behind_84 : decode cX8_behind 84 = .ok (.iinc 6 1, 3) := by decide +kernel
theorem dX8_behind_87 : decode cX8_behind 87 = .ok (.goto (-33), 3) := by decide +kernel
theorem dX8_behind_90 : decode cX8_behind 90 = .ok (.aload_n 0, 1) := by decide +kernel
theorem dX8_behind_91 : decode cX8_behind 91 = .ok (.getfield 36, 3) := by decide +kernel
theorem dX8_behind_94 : decode cX8_behind 94 = .ok (.iconst 3, 1) := by decide +kernel
theorem dX8_behind_95 : decode cX8_behind 95 = .ok (.iload_n 2, 1) := by decide +kernel
theorem dX8_behind_96 : decode cX8_behind 96 = .ok (.imul, 1) := by decide +kernel
theorem dX8_behind_97 : decode cX8_behind 97 = .ok (.iload_n 3, 1) := by decide +kernel
theorem dX8_behind_98 : decode cX8_behind 98 = .ok (.iadd, 1) := by decide +kernel
theorem dX8_behind_99 : decode cX8_behind 99 = .ok (.iconst 1, 1) := by decide +kernel
theorem dX8_behind_100 : decode cX8_behind 100 = .ok (.isub, 1) := by decide +kernel
theorem dX8_behind_101 : decode cX8_behind 101 = .ok (.iaload, 1) := by decide +kernel
theorem dX8_behind_102 : decode cX8_behind 102 = .ok (.istore 5, 2) := by decide +kernel
theorem dX8_behind_104 : decode cX8_behind 104 = .ok (.iload 5, 2) := by decide +kernel
theorem dX8_behind_106 : decode cX8_behind 106 = .ok (.iload 4, 2) := by decide +kernel
theorem dX8_behind_108 : decode cX8_behind 108 = .ok (.if_icmp .gt 5, 3) := by decide +kernel
theorem dX8_behind_111 : decode cX8_behind 111 = .ok (.iconst (-1), 1) := by decide +kernel
theorem dX8_behind_112 : decode cX8_behind 112 = .ok (.ireturn, 1) := by decide +kernel
theorem dX8_behind_113 : decode cX8_behind 113 = .ok (.iload 5, 2) := by decide +kernel
theorem dX8_behind_115 : decode cX8_behind 115 = .ok (.bipush 33, 2) := by decide +kernel
theorem dX8_behind_117 : decode cX8_behind 117 = .ok (.if_icmp .lt 5, 3) := by decide +kernel
theorem dX8_behind_120 : decode cX8_behind 120 = .ok (.iconst (-1), 1) := by decide +kernel
theorem dX8_behind_121 : decode cX8_behind 121 = .ok (.ireturn, 1) := by decide +kernel
theorem dX8_behind_122 : decode cX8_behind 122 = .ok (.iload_n 3, 1) := by decide +kernel
theorem dX8_behind_123 : decode cX8_behind 123 = .ok (.iconst 1, 1) := by decide +kernel
theorem dX8_behind_124 : decode cX8_behind 124 = .ok (.if_icmp .ne 8, 3) := by decide +kernel
theorem dX8_behind_127 : decode cX8_behind 127 = .ok (.iload 5, 2) := by decide +kernel
theorem dX8_behind_129 : decode cX8_behind 129 = .ok (.goto 8, 3) := by decide +kernel
theorem dX8_behind_132 : decode cX8_behind 132 = .ok (.iload_n 1, 1) := by decide +kernel
theorem dX8_behind_133 : decode cX8_behind 133 = .ok (.iconst 1, 1) := by decide +kernel
theorem dX8_behind_134 : decode cX8_behind 134 = .ok (.invokestatic 131, 3) := by decide +kernel
theorem dX8_behind_137 : decode cX8_behind 137 = .ok (.istore 6, 2) := by decide +kernel
theorem dX8_behind_139 : decode cX8_behind 139 = .ok (.iload_n 3, 1) := by decide +kernel
theorem dX8_behind_140 : decode cX8_behind 140 = .ok (.iconst 2, 1) := by decide +kernel
theorem dX8_behind_141 : decode cX8_behind 141 = .ok (.if_icmp .ne 8, 3) := by decide +kernel
theorem dX8_behind_144 : decode cX8_behind 144 = .ok (.iload 5, 2) := by decide +kernel
theorem dX8_behind_146 : decode cX8_behind 146 = .ok (.goto 17, 3) := by decide +kernel
theorem dX8_behind_149 : decode cX8_behind 149 = .ok (.iload_n 3, 1) := by decide +kernel
theorem dX8_behind_150 : decode cX8_behind 150 = .ok (.iconst 2, 1) := by decide +kernel
theorem dX8_behind_151 : decode cX8_behind 151 = .ok (.if_icmp .ge 7, 3) := by decide +kernel
theorem dX8_behind_154 : decode cX8_behind 154 = .ok (.iconst 0, 1) := by decide +kernel
theorem dX8_behind_155 : decode cX8_behind 155 = .ok (.goto 8, 3) := by decide +kernel
theorem dX8_behind_158 : decode cX8_behind 158 = .ok (.iload_n 1, 1) := by decide +kernel
theorem dX8_behind_159 : decode cX8_behind 159 = .ok (.iconst 2, 1) := by decide +kernel
theorem dX8_behind_160 : decode cX8_behind 160 = .ok (.invokestatic 131, 3) := by decide +kernel
theorem dX8_behind_163 : decode cX8_behind 163 = .ok (.istore 7, 2) := by decide +kernel
theorem dX8_behind_165 : decode cX8_behind 165 = .ok (.iload_n 3, 1) := by decide +kernel
theorem dX8_behind_166 : decode cX8_behind 166 = .ok (.iconst 3, 1) := by decide +kernel
theorem dX8_behind_167 : decode cX8_behind 167 = .ok (.if_icmp .ne 8, 3) := by decide +kernel
theorem dX8_behind_170 : decode cX8_behind 170 = .ok (.iload 5, 2) := by decide +kernel
theorem dX8_behind_172 : decode cX8_behind 172 = .ok (.goto 4, 3) := by decide +kernel
theorem dX8_behind_175 : decode cX8_behind 175 = .ok (.iconst 0, 1) := by decide +kernel
theorem dX8_behind_176 : decode cX8_behind 176 = .ok (.istore 8, 2) := by decide +kernel
theorem dX8_behind_178 : decode cX8_behind 178 = .ok (.bipush 33, 2) := by decide +kernel
theorem dX8_behind_180 : decode cX8_behind 180 = .ok (.iload 6, 2) := by decide +kernel
theorem dX8_behind_182 : decode cX8_behind 182 = .ok (.imul, 1) := by decide +kernel
theorem dX8_behind_183 : decode cX8_behind 183 = .ok (.iload 7, 2) := by decide +kernel
theorem dX8_behind_185 : decode cX8_behind 185 = .ok (.iadd, 1) := by decide +kernel
theorem dX8_behind_186 : decode cX8_behind 186 = .ok (.bipush 33, 2) := by decide +kernel
theorem dX8_behind_188 : decode cX8_behind 188 = .ok (.imul, 1) := by decide +kernel
theorem dX8_behind_189 : decode cX8_behind 189 = .ok (.iload 8, 2) := by decide +kernel
theorem dX8_behind_191 : decode cX8_behind 191 = .ok (.iadd, 1) := by decide +kernel
theorem dX8_behind_192 : decode cX8_behind 192 = .ok (.ireturn, 1) := by decide +kernel
theorem dX8_costOf_0 : decode cX8_costOf 0 = .ok (.iload_n 3, 1) := by decide +kernel
theorem dX8_costOf_1 : decode cX8_costOf 1 = .ok (.ifCond .ne 29, 3) := by decide +kernel
theorem dX8_costOf_4 : decode cX8_costOf 4 = .ok (.aload_n 0, 1) := by decide +kernel
theorem dX8_costOf_5 : decode cX8_costOf 5 = .ok (.getfield 88, 3) := by decide +kernel
theorem dX8_costOf_8 : decode cX8_costOf 8 = .ok (.iload_n 2, 1) := by decide +kernel
theorem dX8_costOf_9 : decode cX8_costOf 9 = .ok (.baload, 1) := by decide +kernel
theorem dX8_costOf_10 : decode cX8_costOf 10 = .ok (.ifCond .eq 7, 3) := by decide +kernel
theorem dX8_costOf_13 : decode cX8_costOf 13 = .ok (.iconst 0, 1) := by decide +kernel
theorem dX8_costOf_14 : decode cX8_costOf 14 = .ok (.goto 15, 3) := by decide +kernel
theorem dX8_costOf_17 : decode cX8_costOf 17 = .ok (.aload_n 0, 1) := by decide +kernel
theorem dX8_costOf_18 : decode cX8_costOf 18 = .ok (.iload_n 2, 1) := by decide +kernel
theorem dX8_costOf_19 : decode cX8_costOf 19 = .ok (.invokevirtual 135, 3) := by decide +kernel
theorem dX8_costOf_22 : decode cX8_costOf 22 = .ok (.aload_n 0, 1) := by decide +kernel
theorem dX8_costOf_23 : decode cX8_costOf 23 = .ok (.getfield 39, 3) := by decide +kernel
theorem dX8_costOf_26 : decode cX8_costOf 26 = .ok (.iconst 0, 1) := by decide +kernel
theorem dX8_costOf_27 : decode cX8_costOf 27 = .ok (.iaload, 1) := by decide +kernel
theorem dX8_costOf_28 : decode cX8_costOf 28 = .ok (.imul, 1) := by decide +kernel
theorem dX8_costOf_29 : decode cX8_costOf 29 = .ok (.ireturn, 1) := by decide +kernel
theorem dX8_costOf_30 : decode cX8_costOf 30 = .ok (.aload_n 0, 1) := by decide +kernel
theorem dX8_costOf_31 : decode cX8_costOf 31 = .ok (.getfield 39, 3) := by decide +kernel
theorem dX8_costOf_34 : decode cX8_costOf 34 = .ok (.iconst 1, 1) := by decide +kernel
theorem dX8_costOf_35 : decode cX8_costOf 35 = .ok (.iaload, 1) := by decide +kernel
theorem dX8_costOf_36 : decode cX8_costOf 36 = .ok (.aload_n 0, 1) := by decide +kernel
theorem dX8_costOf_37 : decode cX8_costOf 37 = .ok (.iload_n 2, 1) := by decide +kernel
theorem dX8_costOf_38 : decode cX8_costOf 38 = .ok (.invokevirtual 135, 3) := by decide +kernel
theorem dX8_costOf_41 : decode cX8_costOf 41 = .ok (.aload_n 0, 1) := by decide +kernel
theorem dX8_costOf_42 : decode cX8_costOf 42 = .ok (.getfield 42, 3) := by decide +kernel
theorem dX8_costOf_45 : decode cX8_costOf 45 = .ok (.iload_n 3, 1) := by decide +kernel
theorem dX8_costOf_46 : decode cX8_costOf 46 = .ok (.iaload, 1) := by decide +kernel
theorem dX8_costOf_47 : decode cX8_costOf 47 = .ok (.isub, 1) := by decide +kernel
theorem dX8_costOf_48 : decode cX8_costOf 48 = .ok (.invokestatic 139, 3) := by decide +kernel
theorem dX8_costOf_51 : decode cX8_costOf 51 = .ok (.imul, 1) := by decide +kernel
theorem dX8_costOf_52 : decode cX8_costOf 52 = .ok (.istore 4, 2) := by decide +kernel
theorem dX8_costOf_54 : decode cX8_costOf 54 = .ok (.aload_n 0, 1) := by decide +kernel
theorem dX8_costOf_55 : decode cX8_costOf 55 = .ok (.getfield 33, 3) := by decide +kernel
theorem dX8_costOf_58 : decode cX8_costOf 58 = .ok (.iload_n 2, 1) := by decide +kernel
theorem dX8_costOf_59 : decode cX8_costOf 59 = .ok (.iaload, 1) := by decide +kernel
theorem dX8_costOf_60 : decode cX8_costOf 60 = .ok (.ifCond .ne 13, 3) := by decide +kernel
theorem dX8_costOf_63 : decode cX8_costOf 63 = .ok (.iload 4, 2) := by decide +kernel
theorem dX8_costOf_65 : decode cX8_costOf 65 = .ok (.aload_n 0, 1) := by decide +kernel
theorem dX8_costOf_66 : decode cX8_costOf 66 = .ok (.getfield 39, 3) := by decide +kernel
theorem dX8_costOf_69 : decode cX8_costOf 69 = .ok (.iconst 3, 1) := by decide +kernel
theorem dX8_costOf_70 : decode cX8_costOf 70 = .ok (.iaload, 1) := by decide +kernel
theorem dX8_costOf_71 : decode cX8_costOf 71 = .ok (.iadd, 1) := by decide +kernel
theorem dX8_costOf_72 : decode cX8_costOf 72 = .ok (.ireturn, 1) := by decide +kernel
theorem dX8_costOf_73 : decode cX8_costOf 73 = .ok (.aload_n 0, 1) := by decide +kernel
theorem dX8_costOf_74 : decode cX8_costOf 74 = .ok (.getfield 36, 3) := by decide +kernel
theorem dX8_costOf_77 : decode cX8_costOf 77 = .ok (.iconst 3, 1) := by decide +kernel
theorem dX8_costOf_78 : decode cX8_costOf 78 = .ok (.iload_n 2, 1) := by decide +kernel
theorem dX8_costOf_79 : decode cX8_costOf 79 = .ok (.imul, 1) := by decide +kernel
theorem dX8_costOf_80 : decode cX8_costOf 80 = .ok (.iload_n 3, 1) := by decide +kernel
theorem dX8_costOf_81 : decode cX8_costOf 81 = .ok (.iadd, 1) := by decide +kernel
theorem dX8_costOf_82 : decode cX8_costOf 82 = .ok (.iconst 1, 1) := by decide +kernel
theorem dX8_costOf_83 : decode cX8_costOf 83 = .ok (.isub, 1) := by decide +kernel
theorem dX8_costOf_84 : decode cX8_costOf 84 = .ok (.iaload, 1) := by decide +kernel
theorem dX8_costOf_85 : decode cX8_costOf 85 = .ok (.iload_n 1, 1) := by decide +kernel
theorem dX8_costOf_86 : decode cX8_costOf 86 = .ok (.iload_n 3, 1) := by decide +kernel
theorem dX8_costOf_87 : decode cX8_costOf 87 = .ok (.invokestatic 131, 3) := by decide +kernel
theorem dX8_costOf_90 : decode cX8_costOf 90 = .ok (.iconst 1, 1) := by decide +kernel
theorem dX8_costOf_91 : decode cX8_costOf 91 = .ok (.iadd, 1) := by decide +kernel
theorem dX8_costOf_92 : decode cX8_costOf 92 = .ok (.if_icmp .ne 8, 3) := by decide +kernel
theorem dX8_costOf_95 : decode cX8_costOf 95 = .ok (.iload 4, 2) := by decide +kernel
theorem dX8_costOf_97 : decode cX8_costOf 97 = .ok (.goto 12, 3) := by decide +kernel
theorem dX8_costOf_100 : decode cX8_costOf 100 = .ok (.iload 4, 2) := by decide +kernel
theorem dX8_costOf_102 : decode cX8_costOf 102 = .ok (.aload_n 0, 1) := by decide +kernel
theorem dX8_costOf_103 : decode cX8_costOf 103 = .ok (.getfield 39, 3) := by decide +kernel
theorem dX8_costOf_106 : decode cX8_costOf 106 = .ok (.iconst 2, 1) := by decide +kernel
theorem dX8_costOf_107 : decode cX8_costOf 107 = .ok (.iaload, 1) := by decide +kernel
theorem dX8_costOf_108 : decode cX8_costOf 108 = .ok (.iadd, 1) := by decide +kernel
theorem dX8_costOf_109 : decode cX8_costOf 109 = .ok (.ireturn, 1) := by decide +kernel
theorem dX8_costWithLevel_0 : decode cX8_costWithLevel 0 = .ok (.iload_n 3, 1) := by decide +kernel
theorem dX8_costWithLevel_1 : decode cX8_costWithLevel 1 = .ok (.ifCond .ne 7, 3) := by decide +kernel
theorem dX8_costWithLevel_4 : decode cX8_costWithLevel 4 = .ok (.iload_n 2, 1) := by decide +kernel
theorem dX8_costWithLevel_5 : decode cX8_costWithLevel 5 = .ok (.goto 23, 3) := by decide +kernel
theorem dX8_costWithLevel_8 : decode cX8_costWithLevel 8 = .ok (.aload_n 0, 1) := by decide +kernel
theorem dX8_costWithLevel_9 : decode cX8_costWithLevel 9 = .ok (.getfield 88, 3) := by decide +kernel
theorem dX8_costWithLevel_12 : decode cX8_costWithLevel 12 = .ok (.iload_n 1, 1) := by decide +kernel
theorem dX8_costWithLevel_13 : decode cX8_costWithLevel 13 = .ok (.baload, 1) := by decide +kernel
theorem dX8_costWithLevel_14 : decode cX8_costWithLevel 14 = .ok (.ifCond .eq 7, 3) := by decide +kernel
theorem dX8_costWithLevel_17 : decode cX8_costWithLevel 17 = .ok (.iconst (-1), 1) := by decide +kernel
theorem dX8_costWithLevel_18 : decode cX8_costWithLevel 18 = .ok (.goto 10, 3) := by decide +kernel
theorem dX8_costWithLevel_21 : decode cX8_costWithLevel 21 = .ok (.aload_n 0, 1) := by decide +kernel
theorem dX8_costWithLevel_22 : decode cX8_costWithLevel 22 = .ok (.iload_n 2, 1) := by decide +kernel
theorem dX8_costWithLevel_23 : decode cX8_costWithLevel 23 = .ok (.iload_n 1, 1) := by decide +kernel
theorem dX8_costWithLevel_24 : decode cX8_costWithLevel 24 = .ok (.iload_n 3, 1) := by decide +kernel
theorem dX8_costWithLevel_25 : decode cX8_costWithLevel 25 = .ok (.invokevirtual 144, 3) := by decide +kernel
theorem dX8_costWithLevel_28 : decode cX8_costWithLevel 28 = .ok (.istore 4, 2) := by decide +kernel
theorem dX8_costWithLevel_30 : decode cX8_costWithLevel 30 = .ok (.iload 4, 2) := by decide +kernel
theorem dX8_costWithLevel_32 : decode cX8_costWithLevel 32 = .ok (.iconst (-1), 1) := by decide +kernel
theorem dX8_costWithLevel_33 : decode cX8_costWithLevel 33 = .ok (.if_icmp .ne 8, 3) := by decide +kernel
theorem dX8_costWithLevel_36 : decode cX8_costWithLevel 36 = .ok (.ldc 148, 2) := by decide +kernel
theorem dX8_costWithLevel_38 : decode cX8_costWithLevel 38 = .ok (.goto 20, 3) := by decide +kernel
theorem dX8_costWithLevel_41 : decode cX8_costWithLevel 41 = .ok (.aload_n 0, 1) := by decide +kernel
theorem dX8_costWithLevel_42 : decode cX8_costWithLevel 42 = .ok (.iload_n 2, 1) := by decide +kernel
theorem dX8_costWithLevel_43 : decode cX8_costWithLevel 43 = .ok (.iload_n 1, 1) := by decide +kernel
theorem dX8_costWithLevel_44 : decode cX8_costWithLevel 44 = .ok (.iload_n 3, 1) := by decide +kernel
theorem dX8_costWithLevel_45 : decode cX8_costWithLevel 45 = .ok (.invokevirtual 149, 3) := by decide +kernel
theorem dX8_costWithLevel_48 : decode cX8_costWithLevel 48 = .ok (.aload_n 0, 1) := by decide +kernel
theorem dX8_costWithLevel_49 : decode cX8_costWithLevel 49 = .ok (.iload_n 1, 1) := by decide +kernel
theorem dX8_costWithLevel_50 : decode cX8_costWithLevel 50 = .ok (.iconst 1, 1) := by decide +kernel
theorem dX8_costWithLevel_51 : decode cX8_costWithLevel 51 = .ok (.iadd, 1) := by decide +kernel
theorem dX8_costWithLevel_52 : decode cX8_costWithLevel 52 = .ok (.iload 4, 2) := by decide +kernel
theorem dX8_costWithLevel_54 : decode cX8_costWithLevel 54 = .ok (.invokevirtual 152, 3) := by decide +kernel
theorem dX8_costWithLevel_57 : decode cX8_costWithLevel 57 = .ok (.iadd, 1) := by decide +kernel
theorem dX8_costWithLevel_58 : decode cX8_costWithLevel 58 = .ok (.ireturn, 1) := by decide +kernel
theorem dX8_leastFrom_0 : decode cX8_leastFrom 0 = .ok (.iload_n 1, 1) := by decide +kernel
theorem dX8_leastFrom_1 : decode cX8_leastFrom 1 = .ok (.aload_n 0, 1) := by decide +kernel
theorem dX8_leastFrom_2 : decode cX8_leastFrom 2 = .ok (.getfield 97, 3) := by decide +kernel
theorem dX8_leastFrom_5 : decode cX8_leastFrom 5 = .ok (.if_icmp .ne 5, 3) := by decide +kernel
theorem dX8_leastFrom_8 : decode cX8_leastFrom 8 = .ok (.iconst 0, 1) := by decide +kernel
theorem dX8_leastFrom_9 : decode cX8_leastFrom 9 = .ok (.ireturn, 1) := by decide +kernel
theorem dX8_leastFrom_10 : decode cX8_leastFrom 10 = .ok (.ldc 155, 2) := by decide +kernel
theorem dX8_leastFrom_12 : decode cX8_leastFrom 12 = .ok (.iload_n 1, 1) := by decide +kernel
theorem dX8_leastFrom_13 : decode cX8_leastFrom 13 = .ok (.imul, 1) := by decide +kernel
theorem dX8_leastFrom_14 : decode cX8_leastFrom 14 = .ok (.iload_n 2, 1) := by decide +kernel
theorem dX8_leastFrom_15 : decode cX8_leastFrom 15 = .ok (.iadd, 1) := by decide +kernel
theorem dX8_leastFrom_16 : decode cX8_leastFrom 16 = .ok (.istore_n 3, 1) := by decide +kernel
theorem dX8_leastFrom_17 : decode cX8_leastFrom 17 = .ok (.aload_n 0, 1) := by decide +kernel
theorem dX8_leastFrom_18 : decode cX8_leastFrom 18 = .ok (.getfield 91, 3) := by decide +kernel
theorem dX8_leastFrom_21 : decode cX8_leastFrom 21 = .ok (.iload_n 3, 1) := by decide +kernel
theorem dX8_leastFrom_22 : decode cX8_leastFrom 22 = .ok (.iaload, 1) := by decide +kernel
theorem dX8_leastFrom_23 : decode cX8_leastFrom 23 = .ok (.aload_n 0, 1) := by decide +kernel
theorem dX8_leastFrom_24 : decode cX8_leastFrom 24 = .ok (.getfield 156, 3) := by decide +kernel
theorem dX8_leastFrom_27 : decode cX8_leastFrom 27 = .ok (.if_icmp .ne 10, 3) := by decide +kernel
theorem dX8_leastFrom_30 : decode cX8_leastFrom 30 = .ok (.aload_n 0, 1) := by decide +kernel
theorem dX8_leastFrom_31 : decode cX8_leastFrom 31 = .ok (.getfield 55, 3) := by decide +kernel
theorem dX8_leastFrom_34 : decode cX8_leastFrom 34 = .ok (.iload_n 3, 1) := by decide +kernel
theorem dX8_leastFrom_35 : decode cX8_leastFrom 35 = .ok (.iaload, 1) := by decide +kernel
theorem dX8_leastFrom_36 : decode cX8_leastFrom 36 = .ok (.ireturn, 1) := by decide +kernel
theorem dX8_leastFrom_37 : decode cX8_leastFrom 37 = .ok (.ldc 148, 2) := by decide +kernel
theorem dX8_leastFrom_39 : decode cX8_leastFrom 39 = .ok (.istore 4, 2) := by decide +kernel
theorem dX8_leastFrom_41 : decode cX8_leastFrom 41 = .ok (.iconst 0, 1) := by decide +kernel
theorem dX8_leastFrom_42 : decode cX8_leastFrom 42 = .ok (.istore 5, 2) := by decide +kernel
theorem dX8_leastFrom_44 : decode cX8_leastFrom 44 = .ok (.iload 5, 2) := by decide +kernel
theorem dX8_leastFrom_46 : decode cX8_leastFrom 46 = .ok (.iconst 4, 1) := by decide +kernel
theorem dX8_leastFrom_47 : decode cX8_leastFrom 47 = .ok (.if_icmp .ge 24, 3) := by decide +kernel
theorem dX8_leastFrom_50 : decode cX8_leastFrom 50 = .ok (.iload 4, 2) := by decide +kernel
theorem dX8_leastFrom_52 : decode cX8_leastFrom 52 = .ok (.aload_n 0, 1) := by decide +kernel
theorem dX8_leastFrom_53 : decode cX8_leastFrom 53 = .ok (.iload_n 1, 1) := by decide +kernel
theorem dX8_leastFrom_54 : decode cX8_leastFrom 54 = .ok (.iload_n 2, 1) := by decide +kernel
theorem dX8_leastFrom_55 : decode cX8_leastFrom 55 = .ok (.iload 5, 2) := by decide +kernel
theorem dX8_leastFrom_57 : decode cX8_leastFrom 57 = .ok (.invokevirtual 159, 3) := by decide +kernel
theorem dX8_leastFrom_60 : decode cX8_leastFrom 60 = .ok (.invokestatic 162, 3) := by decide +kernel
theorem dX8_leastFrom_63 : decode cX8_leastFrom 63 = .ok (.istore 4, 2) := by decide +kernel
theorem dX8_leastFrom_65 : decode cX8_leastFrom 65 = .ok (.iinc 5 1, 3) := by decide +kernel
theorem dX8_leastFrom_68 : decode cX8_leastFrom 68 = .ok (.goto (-24), 3) := by decide +kernel
theorem dX8_leastFrom_71 : decode cX8_leastFrom 71 = .ok (.aload_n 0, 1) := by decide +kernel
theorem dX8_leastFrom_72 : decode cX8_leastFrom 72 = .ok (.getfield 91, 3) := by decide +kernel
theorem dX8_leastFrom_75 : decode cX8_leastFrom 75 = .ok (.iload_n 3, 1) := by decide +kernel
theorem dX8_leastFrom_76 : decode cX8_leastFrom 76 = .ok (.aload_n 0, 1) := by decide +kernel
theorem dX8_leastFrom_77 : decode cX8_leastFrom 77 = .ok (.getfield 156, 3) := by decide +kernel
theorem dX8_leastFrom_80 : decode cX8_leastFrom 80 = .ok (.iastore, 1) := by decide +kernel
theorem dX8_leastFrom_81 : decode cX8_leastFrom 81 = .ok (.aload_n 0, 1) := by decide +kernel
theorem dX8_leastFrom_82 : decode cX8_leastFrom 82 = .ok (.getfield 55, 3) := by decide +kernel
theorem dX8_leastFrom_85 : decode cX8_leastFrom 85 = .ok (.iload_n 3, 1) := by decide +kernel
theorem dX8_leastFrom_86 : decode cX8_leastFrom 86 = .ok (.iload 4, 2) := by decide +kernel
theorem dX8_leastFrom_88 : decode cX8_leastFrom 88 = .ok (.iastore, 1) := by decide +kernel
theorem dX8_leastFrom_89 : decode cX8_leastFrom 89 = .ok (.iload 4, 2) := by decide +kernel
theorem dX8_leastFrom_91 : decode cX8_leastFrom 91 = .ok (.ireturn, 1) := by decide +kernel
theorem dX8_findTree_0 : decode cX8_findTree 0 = .ok (.iconst 0, 1) := by decide +kernel
theorem dX8_findTree_1 : decode cX8_findTree 1 = .ok (.istore_n 1, 1) := by decide +kernel
theorem dX8_findTree_2 : decode cX8_findTree 2 = .ok (.iload_n 1, 1) := by decide +kernel
theorem dX8_findTree_3 : decode cX8_findTree 3 = .ok (.aload_n 0, 1) := by decide +kernel
theorem dX8_findTree_4 : decode cX8_findTree 4 = .ok (.getfield 97, 3) := by decide +kernel
theorem dX8_findTree_7 : decode cX8_findTree 7 = .ok (.if_icmp .ge 20, 3) := by decide +kernel
theorem dX8_findTree_10 : decode cX8_findTree 10 = .ok (.aload_n 0, 1) := by decide +kernel
theorem dX8_findTree_11 : decode cX8_findTree 11 = .ok (.getfield 88, 3) := by decide +kernel
theorem dX8_findTree_14 : decode cX8_findTree 14 = .ok (.iload_n 1, 1) := by decide +kernel
theorem dX8_findTree_15 : decode cX8_findTree 15 = .ok (.aload_n 0, 1) := by decide +kernel
theorem dX8_findTree_16 : decode cX8_findTree 16 = .ok (.iload_n 1, 1) := by decide +kernel
theorem dX8_findTree_17 : decode cX8_findTree 17 = .ok (.invokevirtual 165, 3) := by decide +kernel
theorem dX8_findTree_20 : decode cX8_findTree 20 = .ok (.bastore, 1) := by decide +kernel
theorem dX8_findTree_21 : decode cX8_findTree 21 = .ok (.iinc 1 1, 3) := by decide +kernel
theorem dX8_findTree_24 : decode cX8_findTree 24 = .ok (.goto (-22), 3) := by decide +kernel
theorem dX8_findTree_27 : decode cX8_findTree 27 = .ok (.aload_n 0, 1) := by decide +kernel
theorem dX8_findTree_28 : decode cX8_findTree 28 = .ok (.dup, 1) := by decide +kernel
theorem dX8_findTree_29 : decode cX8_findTree 29 = .ok (.getfield 156, 3) := by decide +kernel
theorem dX8_findTree_32 : decode cX8_findTree 32 = .ok (.iconst 1, 1) := by decide +kernel
theorem dX8_findTree_33 : decode cX8_findTree 33 = .ok (.iadd, 1) := by decide +kernel
theorem dX8_findTree_34 : decode cX8_findTree 34 = .ok (.putfield 156, 3) := by decide +kernel
theorem dX8_findTree_37 : decode cX8_findTree 37 = .ok (.aload_n 0, 1) := by decide +kernel
theorem dX8_findTree_38 : decode cX8_findTree 38 = .ok (.aload_n 0, 1) := by decide +kernel
theorem dX8_findTree_39 : decode cX8_findTree 39 = .ok (.iconst 0, 1) := by decide +kernel
theorem dX8_findTree_40 : decode cX8_findTree 40 = .ok (.iconst 0, 1) := by decide +kernel
theorem dX8_findTree_41 : decode cX8_findTree 41 = .ok (.invokevirtual 152, 3) := by decide +kernel
theorem dX8_findTree_44 : decode cX8_findTree 44 = .ok (.putfield 168, 3) := by decide +kernel
theorem dX8_findTree_47 : decode cX8_findTree 47 = .ok (.aload_n 0, 1) := by decide +kernel
theorem dX8_findTree_48 : decode cX8_findTree 48 = .ok (.iconst 0, 1) := by decide +kernel
theorem dX8_findTree_49 : decode cX8_findTree 49 = .ok (.putfield 171, 3) := by decide +kernel
theorem dX8_findTree_52 : decode cX8_findTree 52 = .ok (.iconst 0, 1) := by decide +kernel
theorem dX8_findTree_53 : decode cX8_findTree 53 = .ok (.istore_n 1, 1) := by decide +kernel
theorem dX8_findTree_54 : decode cX8_findTree 54 = .ok (.iconst 0, 1) := by decide +kernel
theorem dX8_findTree_55 : decode cX8_findTree 55 = .ok (.istore_n 2, 1) := by decide +kernel
